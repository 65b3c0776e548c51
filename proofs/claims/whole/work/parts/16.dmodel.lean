section
variable {E : Ev} {p : Program} {l : Launch} {e : Env} {s : State} {m : MethodId} {args : Array Value} {below : List Frame} {meth : Method} {c : Code}
def DX8_arePair_25 (s0 : Int32) (σ : Sg) : Option (Int32 × Sg) :=
  chk (ck01 s0) <|
  some (s0, σ)
theorem tX8_arePair_25 {r : Int32} {σ' : Sg} (C : Cx E p s m args meth c RX8 cX8_arePair 4) (hr : meth.sig.returnType = (some .boolean)) {s0 : Int32} {σ : Sg} (h : DX8_arePair_25 s0 σ = some (r, σ')) : Y E p l e (rmA 1 0 0) s m args below meth c (some (.int r)) σ' 0 0 4 0 0 σ 25 [none, none, none, none] [.int s0] := by
  unfold DX8_arePair_25 at h
  obtain ⟨kz, h⟩ := chk_s h
  cases h
  exact x_zret C hr (nar_01 kz) dX8_arePair_25
def DX8_arePair_20 (σ : Sg) : Option (Int32 × Sg) :=
  DX8_arePair_25 (1 : Int32) σ
theorem tX8_arePair_20 {r : Int32} {σ' : Sg} (C : Cx E p s m args meth c RX8 cX8_arePair 4) (hr : meth.sig.returnType = (some .boolean)) {σ : Sg} (h : DX8_arePair_20  σ = some (r, σ')) : Y E p l e (rmA 1 0 0) s m args below meth c (some (.int r)) σ' 0 0 4 0 0 σ 20 [none, none, none, none] [] := by
  unfold DX8_arePair_20 at h
  refine x_iconst (v := 1) (pc := 20) C dX8_arePair_20 (by decide) ?_
  refine x_goto (tgt := 25) (pc := 21) C dX8_arePair_21 (by decide) ?_
  exact x_sub (tX8_arePair_25 C hr h) (xLe_n (xLe_n (xLe_n (xLe_n xLe_0))))
def DX8_arePair_24 (σ : Sg) : Option (Int32 × Sg) :=
  DX8_arePair_25 (0 : Int32) σ
theorem tX8_arePair_24 {r : Int32} {σ' : Sg} (C : Cx E p s m args meth c RX8 cX8_arePair 4) (hr : meth.sig.returnType = (some .boolean)) {σ : Sg} (h : DX8_arePair_24  σ = some (r, σ')) : Y E p l e (rmA 1 0 0) s m args below meth c (some (.int r)) σ' 0 0 4 0 0 σ 24 [none, none, none, none] [] := by
  unfold DX8_arePair_24 at h
  refine x_iconst (v := 0) (pc := 24) C dX8_arePair_24 (by decide) ?_
  exact x_sub (tX8_arePair_25 C hr h) (xLe_n (xLe_n (xLe_n (xLe_n xLe_0))))
def DX8_arePair_10 (l0 : Int32) (l1 : Int32) (l2 : Int32) (l3 : Int32) (σ : Sg) : Option (Int32 × Sg) :=
  if l0 = l3 then
    if l1 = l2 then
      DX8_arePair_20 σ
    else
      DX8_arePair_24 σ
  else
    DX8_arePair_24 σ
theorem tX8_arePair_10 {r : Int32} {σ' : Sg} (C : Cx E p s m args meth c RX8 cX8_arePair 4) (hr : meth.sig.returnType = (some .boolean)) {l0 : Int32} {l1 : Int32} {l2 : Int32} {l3 : Int32} {σ : Sg} (h : DX8_arePair_10 l0 l1 l2 l3 σ = some (r, σ')) : Y E p l e (rmA 1 0 0) s m args below meth c (some (.int r)) σ' 0 0 4 0 0 σ 10 [some (.int l0), some (.int l1), some (.int l2), some (.int l3)] [] := by
  unfold DX8_arePair_10 at h
  refine x_iload_n (pc := 10) C dX8_arePair_10 rfl rfl ?_
  refine x_iload_n (pc := 11) C dX8_arePair_11 rfl rfl ?_
  refine x_icmp_ne (pc := 12) (tgt := 24) C dX8_arePair_12 (by decide) (fun q => ?_) (fun q => ?_)
  · rw [if_pos q] at h
    refine x_iload_n (pc := 15) C dX8_arePair_15 rfl rfl ?_
    refine x_iload_n (pc := 16) C dX8_arePair_16 rfl rfl ?_
    refine x_icmp_ne (pc := 17) (tgt := 24) C dX8_arePair_17 (by decide) (fun q => ?_) (fun q => ?_)
    · rw [if_pos q] at h
      exact x_sub (tX8_arePair_20 C hr h) (xLe_n (xLe_n (xLe_n (xLe_n xLe_0))))
    · rw [if_neg q] at h
      exact x_sub (tX8_arePair_24 C hr h) (xLe_n (xLe_n (xLe_n (xLe_n xLe_0))))
  · rw [if_neg q] at h
    exact x_sub (tX8_arePair_24 C hr h) (xLe_n (xLe_n (xLe_n (xLe_n xLe_0))))
def DX8_arePair (l0 : Int32) (l1 : Int32) (l2 : Int32) (l3 : Int32) (σ : Sg) : Option (Int32 × Sg) :=
  if l0 = l2 then
    if l1 = l3 then
      DX8_arePair_20 σ
    else
      DX8_arePair_10 l0 l1 l2 l3 σ
  else
    DX8_arePair_10 l0 l1 l2 l3 σ
theorem mX8_arePair (E : Ev) (l : Launch) {l0 : Int32} {l1 : Int32} {l2 : Int32} {l3 : Int32} {σ : Sg} {r : Int32} {σ' : Sg} (h : DX8_arePair l0 l1 l2 l3 σ = some (r, σ')) : Mt E l yX8_arePair cX8_arePair 4 (some .boolean) 1 0 0 [.int l0, .int l1, .int l2, .int l3] σ (some (.int r)) σ' := by
  refine Mt.ofX (by decide) (Nat.le_of_ble_eq_true rfl) (L0 := [some (.int l0), some (.int l1), some (.int l2), some (.int l3)]) (xEntN_ok [.int l0, .int l1, .int l2, .int l3] 4) (fun p e s m args below meth c C hr hn => ?_)
  unfold DX8_arePair at h
  refine x_iload_n (pc := 0) C dX8_arePair_0 rfl rfl ?_
  refine x_iload_n (pc := 1) C dX8_arePair_1 rfl rfl ?_
  refine x_icmp_ne (pc := 2) (tgt := 10) C dX8_arePair_2 (by decide) (fun q => ?_) (fun q => ?_)
  · rw [if_pos q] at h
    refine x_iload_n (pc := 5) C dX8_arePair_5 rfl rfl ?_
    refine x_iload_n (pc := 6) C dX8_arePair_6 rfl rfl ?_
    refine x_icmp_eq (pc := 7) (tgt := 20) C dX8_arePair_7 (by decide) (fun q => ?_) (fun q => ?_)
    · rw [if_pos q] at h
      exact x_sub (tX8_arePair_20 C hr h) (xLe_n (xLe_n (xLe_n (xLe_n xLe_0))))
    · rw [if_neg q] at h
      exact x_sub (tX8_arePair_10 C hr h) (xLe_s (xLe_s (xLe_s (xLe_s xLe_0))))
  · rw [if_neg q] at h
    exact x_sub (tX8_arePair_10 C hr h) (xLe_s (xLe_s (xLe_s (xLe_s xLe_0))))
def DX8_legOf_36 (l0 : Nat) (l3 : Int32) (σ : Sg) : Option (Int32 × Sg) :=
  chk (ckO σ 6 l0) <|
  chk (ckV (gR σ l0 12)) <|
  chk (ckI σ (gR σ l0 12) (((3 : Int32) * l3) + (2 : Int32))) <|
  some ((aI σ (gR σ l0 12) (((3 : Int32) * l3) + (2 : Int32)).toNatClampNeg), σ)
theorem tX8_legOf_36 {r : Int32} {σ' : Sg} (C : Cx E p s m args meth c RX8 cX8_legOf 4) (hr : meth.sig.returnType = (some .int)) {l0 : Nat} {l3 : Int32} {σ : Sg} (h : DX8_legOf_36 l0 l3 σ = some (r, σ')) : Y E p l e (rmA 2 0 0) s m args below meth c (some (.int r)) σ' 0 0 4 0 0 σ 36 [some (.ref (ad E l0)), none, none, some (.int l3)] [] := by
  unfold DX8_legOf_36 at h
  refine x_aload_n (pc := 36) C dX8_legOf_36 rfl rfl ?_
  obtain ⟨k, h⟩ := chk_s h
  have k2 := k
  obtain ⟨k, h⟩ := chk_s h
  refine x_getR (pc := 37) C fX8_13 rfl k2 k dX8_legOf_37 ?_
  refine x_iconst (v := 3) (pc := 40) C dX8_legOf_40 (by decide) ?_
  refine x_iload_n (pc := 41) C dX8_legOf_41 rfl rfl ?_
  refine x_imul (pc := 42) C dX8_legOf_42 ?_
  refine x_iconst (v := 2) (pc := 43) C dX8_legOf_43 (by decide) ?_
  refine x_iadd (pc := 44) C dX8_legOf_44 ?_
  obtain ⟨k, h⟩ := chk_s h
  refine x_iald (pc := 45) C k dX8_legOf_45 ?_
  cases h
  exact x_iret C hr dX8_legOf_46
def DX8_legOf_53 (σ : Sg) : Option (Int32 × Sg) :=
  some ((1000000 : Int32), σ)
theorem tX8_legOf_53 {r : Int32} {σ' : Sg} (C : Cx E p s m args meth c RX8 cX8_legOf 4) (hr : meth.sig.returnType = (some .int)) {σ : Sg} (h : DX8_legOf_53  σ = some (r, σ')) : Y E p l e (rmA 2 0 0) s m args below meth c (some (.int r)) σ' 0 0 4 0 0 σ 53 [none, none, none, none] [] := by
  unfold DX8_legOf_53 at h
  refine x_ldc (pc := 53) C kX8_245 dX8_legOf_53 ?_
  cases h
  exact x_iret C hr dX8_legOf_55
def DX8_legOf_2 : Nat → Nat → Int32 → Int32 → Int32 → Sg → Option (Int32 × Sg)
  | 0, _, _, _, _, _ => none
  | n + 1, l0, l1, l2, l3, σ =>
    chk (ckO σ 6 l0) <|
    if (gI σ l0 5) ≤ l3 then
      DX8_legOf_53 σ
    else
      chk (ckO σ 6 l0) <|
      chk (ckV (gR σ l0 12)) <|
      chk (ckI σ (gR σ l0 12) ((3 : Int32) * l3)) <|
      chk (ckO σ 6 l0) <|
      chk (ckV (gR σ l0 12)) <|
      chk (ckI σ (gR σ l0 12) (((3 : Int32) * l3) + (1 : Int32))) <|
      bnd (DX8_arePair (aI σ (gR σ l0 12) ((3 : Int32) * l3).toNatClampNeg) (aI σ (gR σ l0 12) (((3 : Int32) * l3) + (1 : Int32)).toNatClampNeg) l1 l2 σ) fun v1 σ2 =>
      if v1 = 0 then
        DX8_legOf_2 n l0 l1 l2 (l3 + (1 : Int32)) σ2
      else
        DX8_legOf_36 l0 l3 σ2
theorem tX8_legOf_2 {r : Int32} {σ' : Sg} (C : Cx E p s m args meth c RX8 cX8_legOf 4) (hr : meth.sig.returnType = (some .int)) : ∀ (n : Nat) (l0 : Nat) (l1 : Int32) (l2 : Int32) (l3 : Int32) (σ : Sg) (h : DX8_legOf_2 n l0 l1 l2 l3 σ = some (r, σ')), Y E p l e (rmA 2 0 0) s m args below meth c (some (.int r)) σ' 0 0 4 0 0 σ 2 [some (.ref (ad E l0)), some (.int l1), some (.int l2), some (.int l3)] [] := by
  intro n
  induction n with
  | zero => intro l0 l1 l2 l3 σ h; cases h
  | succ n ih =>
    intro l0 l1 l2 l3 σ h
    unfold DX8_legOf_2 at h
    refine x_iload_n (pc := 2) C dX8_legOf_2 rfl rfl ?_
    refine x_aload_n (pc := 3) C dX8_legOf_3 rfl rfl ?_
    obtain ⟨k, h⟩ := chk_s h
    refine x_getI (pc := 4) C fX8_199 rfl k dX8_legOf_4 ?_
    refine x_icmp_ge (pc := 7) (tgt := 53) C dX8_legOf_7 (by decide) (fun q => ?_) (fun q => ?_)
    · rw [if_pos q] at h
      exact x_sub (tX8_legOf_53 C hr h) (xLe_n (xLe_n (xLe_n (xLe_n xLe_0))))
    · rw [if_neg q] at h
      refine x_aload_n (pc := 10) C dX8_legOf_10 rfl rfl ?_
      obtain ⟨k, h⟩ := chk_s h
      have k2 := k
      obtain ⟨k, h⟩ := chk_s h
      refine x_getR (pc := 11) C fX8_13 rfl k2 k dX8_legOf_11 ?_
      refine x_iconst (v := 3) (pc := 14) C dX8_legOf_14 (by decide) ?_
      refine x_iload_n (pc := 15) C dX8_legOf_15 rfl rfl ?_
      refine x_imul (pc := 16) C dX8_legOf_16 ?_
      obtain ⟨k, h⟩ := chk_s h
      refine x_iald (pc := 17) C k dX8_legOf_17 ?_
      refine x_aload_n (pc := 18) C dX8_legOf_18 rfl rfl ?_
      obtain ⟨k, h⟩ := chk_s h
      have k2 := k
      obtain ⟨k, h⟩ := chk_s h
      refine x_getR (pc := 19) C fX8_13 rfl k2 k dX8_legOf_19 ?_
      refine x_iconst (v := 3) (pc := 22) C dX8_legOf_22 (by decide) ?_
      refine x_iload_n (pc := 23) C dX8_legOf_23 rfl rfl ?_
      refine x_imul (pc := 24) C dX8_legOf_24 ?_
      refine x_iconst (v := 1) (pc := 25) C dX8_legOf_25 (by decide) ?_
      refine x_iadd (pc := 26) C dX8_legOf_26 ?_
      obtain ⟨k, h⟩ := chk_s h
      refine x_iald (pc := 27) C k dX8_legOf_27 ?_
      refine x_iload_n (pc := 28) C dX8_legOf_28 rfl rfl ?_
      refine x_iload_n (pc := 29) C dX8_legOf_29 rfl rfl ?_
      obtain ⟨v1, σ2, k, h⟩ := bnd_s h
      refine x_callS1 (pc := 30) C (mX8_arePair E l k) cX8_209 zX8_arePair rfl rfl (Nat.le_of_ble_eq_true rfl) ⟨Nat.le_of_ble_eq_true rfl, Nat.le_of_ble_eq_true rfl, Nat.le_of_ble_eq_true rfl, Nat.le_of_ble_eq_true rfl⟩ dX8_legOf_30 ?_
      refine x_if_eq (pc := 33) (tgt := 47) C dX8_legOf_33 (by decide) (fun q => ?_) (fun q => ?_)
      · rw [if_pos q] at h
        refine x_iinc (v := 1) (M := [some _, some _, some _, some _]) (pc := 47) C dX8_legOf_47 rfl (by decide) (by decide) rfl ?_
        refine x_goto (tgt := 2) (pc := 50) C dX8_legOf_50 (by decide) ?_
        exact x_sub (ih _ _ _ _ _ h) (xLe_s (xLe_s (xLe_s (xLe_s xLe_0))))
      · rw [if_neg q] at h
        exact x_sub (tX8_legOf_36 C hr h) (xLe_s (xLe_n (xLe_n (xLe_s xLe_0))))
def DX8_legOf (l0 : Nat) (l1 : Int32) (l2 : Int32) (σ : Sg) : Option (Int32 × Sg) :=
  DX8_legOf_2 FU l0 l1 l2 (0 : Int32) σ
theorem mX8_legOf (E : Ev) (l : Launch) {l0 : Nat} {l1 : Int32} {l2 : Int32} {σ : Sg} {r : Int32} {σ' : Sg} (h : DX8_legOf l0 l1 l2 σ = some (r, σ')) : Mt E l yX8_legOf cX8_legOf 4 (some .int) 2 0 0 [.ref (ad E l0), .int l1, .int l2] σ (some (.int r)) σ' := by
  refine Mt.ofX (by decide) (Nat.le_of_ble_eq_true rfl) (L0 := [some (.ref (ad E l0)), some (.int l1), some (.int l2), none]) (xEntN_ok [.ref (ad E l0), .int l1, .int l2] 4) (fun p e s m args below meth c C hr hn => ?_)
  unfold DX8_legOf at h
  refine x_iconst (v := 0) (pc := 0) C dX8_legOf_0 (by decide) ?_
  refine x_istore_n (M := [some _, some _, some _, some _]) (pc := 1) C dX8_legOf_1 rfl (by decide) rfl ?_
  exact x_sub (tX8_legOf_2 C hr FU _ _ _ _ _ h) (xLe_s (xLe_s (xLe_s (xLe_s xLe_0))))
def DX8_laysMiles_41 (K2 : Nat → Int32 → Sg → Option (Unit × Sg)) (K10 : Nat → Int32 → Int32 → Sg → Option (Unit × Sg)) (l0 : Nat) (l1 : Int32) (l2 : Int32) (s0 : Nat) (s1 : Int32) (s2 : Int32) (σ : Sg) : Option (Unit × Sg) :=
  chk (ckI σ s0 s1) <|
  wlet (wI σ s0 s1.toNatClampNeg s2) fun σ1 =>
  K10 l0 l1 (l2 + (1 : Int32)) σ1
theorem tX8_laysMiles_41 {r : Unit} {σ' : Sg} (C : Cx E p s m args meth c RX8 cX8_laysMiles 5) (hr : meth.sig.returnType = none) {K2 : Nat → Int32 → Sg → Option (Unit × Sg)} (hK2 : ∀ (l0 : Nat) (l1 : Int32) (σ : Sg), K2 l0 l1 σ = some (r, σ') → Y E p l e (rmA 3 0 0) s m args below meth c none σ' 0 0 5 0 0 σ 2 [some (.ref (ad E l0)), some (.int l1), none, none, none] []) {K10 : Nat → Int32 → Int32 → Sg → Option (Unit × Sg)} (hK10 : ∀ (l0 : Nat) (l1 : Int32) (l2 : Int32) (σ : Sg), K10 l0 l1 l2 σ = some (r, σ') → Y E p l e (rmA 3 0 0) s m args below meth c none σ' 0 0 5 0 0 σ 10 [some (.ref (ad E l0)), some (.int l1), some (.int l2), none, none] []) {l0 : Nat} {l1 : Int32} {l2 : Int32} {s0 : Nat} {s1 : Int32} {s2 : Int32} {σ : Sg} (h : DX8_laysMiles_41 K2 K10 l0 l1 l2 s0 s1 s2 σ = some (r, σ')) : Y E p l e (rmA 3 0 0) s m args below meth c none σ' 0 0 5 0 0 σ 41 [some (.ref (ad E l0)), some (.int l1), some (.int l2), none, none] [.int s2, .int s1, .ref (ad E s0)] := by
  unfold DX8_laysMiles_41 at h
  obtain ⟨k, h⟩ := chk_s h
  obtain ⟨σ1, e1, h⟩ := wlet_s h
  refine x_iast (pc := 41) C k dX8_laysMiles_41 (x_eq e1 ?_)
  refine x_iinc (v := 1) (M := [some _, some _, some _, none, none]) (pc := 42) C dX8_laysMiles_42 rfl (by decide) (by decide) rfl ?_
  refine x_goto (tgt := 10) (pc := 45) C dX8_laysMiles_45 (by decide) ?_
  exact x_sub (hK10 _ _ _ _ h) (xLe_s (xLe_s (xLe_s (xLe_n (xLe_n xLe_0)))))
def DX8_laysMiles_48 (K2 : Nat → Int32 → Sg → Option (Unit × Sg)) (l0 : Nat) (l1 : Int32) (σ : Sg) : Option (Unit × Sg) :=
  K2 l0 (l1 + (1 : Int32)) σ
theorem tX8_laysMiles_48 {r : Unit} {σ' : Sg} (C : Cx E p s m args meth c RX8 cX8_laysMiles 5) (hr : meth.sig.returnType = none) {K2 : Nat → Int32 → Sg → Option (Unit × Sg)} (hK2 : ∀ (l0 : Nat) (l1 : Int32) (σ : Sg), K2 l0 l1 σ = some (r, σ') → Y E p l e (rmA 3 0 0) s m args below meth c none σ' 0 0 5 0 0 σ 2 [some (.ref (ad E l0)), some (.int l1), none, none, none] []) {l0 : Nat} {l1 : Int32} {σ : Sg} (h : DX8_laysMiles_48 K2 l0 l1 σ = some (r, σ')) : Y E p l e (rmA 3 0 0) s m args below meth c none σ' 0 0 5 0 0 σ 48 [some (.ref (ad E l0)), some (.int l1), none, none, none] [] := by
  unfold DX8_laysMiles_48 at h
  refine x_iinc (v := 1) (M := [some _, some _, none, none, none]) (pc := 48) C dX8_laysMiles_48 rfl (by decide) (by decide) rfl ?_
  refine x_goto (tgt := 2) (pc := 51) C dX8_laysMiles_51 (by decide) ?_
  exact x_sub (hK2 _ _ _ h) (xLe_s (xLe_s (xLe_n (xLe_n (xLe_n xLe_0)))))
def DX8_laysMiles_10 (K2 : Nat → Int32 → Sg → Option (Unit × Sg)) : Nat → Nat → Int32 → Int32 → Sg → Option (Unit × Sg)
  | 0, _, _, _, _ => none
  | n + 1, l0, l1, l2, σ =>
    if (12 : Int32) ≤ l2 then
      DX8_laysMiles_48 K2 l0 l1 σ
    else
      chk (ckO σ 6 l0) <|
      chk (ckV (gR σ l0 19)) <|
      if l1 = l2 then
        DX8_laysMiles_41 K2 (DX8_laysMiles_10 K2 n) l0 l1 l2 (gR σ l0 19) (((12 : Int32) * l1) + l2) (0 : Int32) σ
      else
        chk (ckO σ 6 l0) <|
        bnd (DX8_legOf l0 l1 l2 σ) fun v1 σ2 =>
        DX8_laysMiles_41 K2 (DX8_laysMiles_10 K2 n) l0 l1 l2 (gR σ l0 19) (((12 : Int32) * l1) + l2) v1 σ2
theorem tX8_laysMiles_10 {r : Unit} {σ' : Sg} (C : Cx E p s m args meth c RX8 cX8_laysMiles 5) (hr : meth.sig.returnType = none) {K2 : Nat → Int32 → Sg → Option (Unit × Sg)} (hK2 : ∀ (l0 : Nat) (l1 : Int32) (σ : Sg), K2 l0 l1 σ = some (r, σ') → Y E p l e (rmA 3 0 0) s m args below meth c none σ' 0 0 5 0 0 σ 2 [some (.ref (ad E l0)), some (.int l1), none, none, none] []) : ∀ (n : Nat) (l0 : Nat) (l1 : Int32) (l2 : Int32) (σ : Sg) (h : DX8_laysMiles_10 K2 n l0 l1 l2 σ = some (r, σ')), Y E p l e (rmA 3 0 0) s m args below meth c none σ' 0 0 5 0 0 σ 10 [some (.ref (ad E l0)), some (.int l1), some (.int l2), none, none] [] := by
  intro n
  induction n with
  | zero => intro l0 l1 l2 σ h; cases h
  | succ n ih =>
    intro l0 l1 l2 σ h
    unfold DX8_laysMiles_10 at h
    refine x_iload_n (pc := 10) C dX8_laysMiles_10 rfl rfl ?_
    refine x_bipush (v := 12) (pc := 11) C dX8_laysMiles_11 (by decide) ?_
    refine x_icmp_ge (pc := 13) (tgt := 48) C dX8_laysMiles_13 (by decide) (fun q => ?_) (fun q => ?_)
    · rw [if_pos q] at h
      exact x_sub (tX8_laysMiles_48 C hr hK2 h) (xLe_s (xLe_s (xLe_n (xLe_n (xLe_n xLe_0)))))
    · rw [if_neg q] at h
      refine x_aload_n (pc := 16) C dX8_laysMiles_16 rfl rfl ?_
      obtain ⟨k, h⟩ := chk_s h
      have k2 := k
      obtain ⟨k, h⟩ := chk_s h
      refine x_getR (pc := 17) C fX8_34 rfl k2 k dX8_laysMiles_17 ?_
      refine x_bipush (v := 12) (pc := 20) C dX8_laysMiles_20 (by decide) ?_
      refine x_iload_n (pc := 22) C dX8_laysMiles_22 rfl rfl ?_
      refine x_imul (pc := 23) C dX8_laysMiles_23 ?_
      refine x_iload_n (pc := 24) C dX8_laysMiles_24 rfl rfl ?_
      refine x_iadd (pc := 25) C dX8_laysMiles_25 ?_
      refine x_iload_n (pc := 26) C dX8_laysMiles_26 rfl rfl ?_
      refine x_iload_n (pc := 27) C dX8_laysMiles_27 rfl rfl ?_
      refine x_icmp_ne (pc := 28) (tgt := 35) C dX8_laysMiles_28 (by decide) (fun q => ?_) (fun q => ?_)
      · rw [if_pos q] at h
        refine x_iconst (v := 0) (pc := 31) C dX8_laysMiles_31 (by decide) ?_
        refine x_goto (tgt := 41) (pc := 32) C dX8_laysMiles_32 (by decide) ?_
        exact x_sub (tX8_laysMiles_41 C hr hK2 ih h) (xLe_s (xLe_s (xLe_s (xLe_n (xLe_n xLe_0)))))
      · rw [if_neg q] at h
        refine x_aload_n (pc := 35) C dX8_laysMiles_35 rfl rfl ?_
        refine x_iload_n (pc := 36) C dX8_laysMiles_36 rfl rfl ?_
        refine x_iload_n (pc := 37) C dX8_laysMiles_37 rfl rfl ?_
        obtain ⟨k, h⟩ := chk_s h
        have k2 := k
        obtain ⟨v1, σ2, k, h⟩ := bnd_s h
        refine x_callV1 (pc := 38) C (mX8_legOf E l k) cl6 k2 cX8_290 nX8_legOf sX8_legOf rfl rfl (Nat.le_of_ble_eq_true rfl) ⟨Nat.le_of_ble_eq_true rfl, Nat.le_of_ble_eq_true rfl, Nat.le_of_ble_eq_true rfl, Nat.le_of_ble_eq_true rfl⟩ dX8_laysMiles_38 ?_
        exact x_sub (tX8_laysMiles_41 C hr hK2 ih h) (xLe_s (xLe_s (xLe_s (xLe_n (xLe_n xLe_0)))))
def DX8_laysMiles_136 (K56 : Nat → Int32 → Sg → Option (Unit × Sg)) (K64 : Nat → Int32 → Int32 → Sg → Option (Unit × Sg)) (l0 : Nat) (l1 : Int32) (l2 : Int32) (σ : Sg) : Option (Unit × Sg) :=
  K64 l0 l1 (l2 + (1 : Int32)) σ
theorem tX8_laysMiles_136 {r : Unit} {σ' : Sg} (C : Cx E p s m args meth c RX8 cX8_laysMiles 5) (hr : meth.sig.returnType = none) {K56 : Nat → Int32 → Sg → Option (Unit × Sg)} (hK56 : ∀ (l0 : Nat) (l1 : Int32) (σ : Sg), K56 l0 l1 σ = some (r, σ') → Y E p l e (rmA 3 0 0) s m args below meth c none σ' 0 0 5 0 0 σ 56 [some (.ref (ad E l0)), some (.int l1), none, none, none] []) {K64 : Nat → Int32 → Int32 → Sg → Option (Unit × Sg)} (hK64 : ∀ (l0 : Nat) (l1 : Int32) (l2 : Int32) (σ : Sg), K64 l0 l1 l2 σ = some (r, σ') → Y E p l e (rmA 3 0 0) s m args below meth c none σ' 0 0 5 0 0 σ 64 [some (.ref (ad E l0)), some (.int l1), some (.int l2), none, none] []) {l0 : Nat} {l1 : Int32} {l2 : Int32} {σ : Sg} (h : DX8_laysMiles_136 K56 K64 l0 l1 l2 σ = some (r, σ')) : Y E p l e (rmA 3 0 0) s m args below meth c none σ' 0 0 5 0 0 σ 136 [some (.ref (ad E l0)), some (.int l1), some (.int l2), none, none] [] := by
  unfold DX8_laysMiles_136 at h
  refine x_iinc (v := 1) (M := [some _, some _, some _, none, none]) (pc := 136) C dX8_laysMiles_136 rfl (by decide) (by decide) rfl ?_
  refine x_goto (tgt := 64) (pc := 139) C dX8_laysMiles_139 (by decide) ?_
  exact x_sub (hK64 _ _ _ _ h) (xLe_s (xLe_s (xLe_s (xLe_n (xLe_n xLe_0)))))
def DX8_laysMiles_72 (K56 : Nat → Int32 → Sg → Option (Unit × Sg)) (K64 : Nat → Int32 → Int32 → Sg → Option (Unit × Sg)) : Nat → Nat → Int32 → Int32 → Int32 → Sg → Option (Unit × Sg)
  | 0, _, _, _, _, _ => none
  | n + 1, l0, l1, l2, l3, σ =>
    if (12 : Int32) ≤ l3 then
      DX8_laysMiles_136 K56 K64 l0 l1 l2 σ
    else
      chk (ckO σ 6 l0) <|
      chk (ckV (gR σ l0 19)) <|
      chk (ckI σ (gR σ l0 19) (((12 : Int32) * l2) + l1)) <|
      chk (ckO σ 6 l0) <|
      chk (ckV (gR σ l0 19)) <|
      chk (ckI σ (gR σ l0 19) (((12 : Int32) * l1) + l3)) <|
      chk (ckO σ 6 l0) <|
      chk (ckV (gR σ l0 19)) <|
      chk (ckO σ 6 l0) <|
      chk (ckV (gR σ l0 19)) <|
      chk (ckI σ (gR σ l0 19) (((12 : Int32) * l2) + l3)) <|
      chk (ckI σ (gR σ l0 19) (((12 : Int32) * l2) + l3)) <|
      wlet (wI σ (gR σ l0 19) (((12 : Int32) * l2) + l3).toNatClampNeg (imin (aI σ (gR σ l0 19) (((12 : Int32) * l2) + l3).toNatClampNeg) ((aI σ (gR σ l0 19) (((12 : Int32) * l2) + l1).toNatClampNeg) + (aI σ (gR σ l0 19) (((12 : Int32) * l1) + l3).toNatClampNeg)))) fun σ1 =>
      DX8_laysMiles_72 K56 K64 n l0 l1 l2 (l3 + (1 : Int32)) σ1
theorem tX8_laysMiles_72 {r : Unit} {σ' : Sg} (C : Cx E p s m args meth c RX8 cX8_laysMiles 5) (hr : meth.sig.returnType = none) {K56 : Nat → Int32 → Sg → Option (Unit × Sg)} (hK56 : ∀ (l0 : Nat) (l1 : Int32) (σ : Sg), K56 l0 l1 σ = some (r, σ') → Y E p l e (rmA 3 0 0) s m args below meth c none σ' 0 0 5 0 0 σ 56 [some (.ref (ad E l0)), some (.int l1), none, none, none] []) {K64 : Nat → Int32 → Int32 → Sg → Option (Unit × Sg)} (hK64 : ∀ (l0 : Nat) (l1 : Int32) (l2 : Int32) (σ : Sg), K64 l0 l1 l2 σ = some (r, σ') → Y E p l e (rmA 3 0 0) s m args below meth c none σ' 0 0 5 0 0 σ 64 [some (.ref (ad E l0)), some (.int l1), some (.int l2), none, none] []) : ∀ (n : Nat) (l0 : Nat) (l1 : Int32) (l2 : Int32) (l3 : Int32) (σ : Sg) (h : DX8_laysMiles_72 K56 K64 n l0 l1 l2 l3 σ = some (r, σ')), Y E p l e (rmA 3 0 0) s m args below meth c none σ' 0 0 5 0 0 σ 72 [some (.ref (ad E l0)), some (.int l1), some (.int l2), some (.int l3), none] [] := by
  intro n
  induction n with
  | zero => intro l0 l1 l2 l3 σ h; cases h
  | succ n ih =>
    intro l0 l1 l2 l3 σ h
    unfold DX8_laysMiles_72 at h
    refine x_iload_n (pc := 72) C dX8_laysMiles_72 rfl rfl ?_
    refine x_bipush (v := 12) (pc := 73) C dX8_laysMiles_73 (by decide) ?_
    refine x_icmp_ge (pc := 75) (tgt := 136) C dX8_laysMiles_75 (by decide) (fun q => ?_) (fun q => ?_)
    · rw [if_pos q] at h
      exact x_sub (tX8_laysMiles_136 C hr hK56 hK64 h) (xLe_s (xLe_s (xLe_s (xLe_n (xLe_n xLe_0)))))
    · rw [if_neg q] at h
      refine x_aload_n (pc := 78) C dX8_laysMiles_78 rfl rfl ?_
      obtain ⟨k, h⟩ := chk_s h
      have k2 := k
      obtain ⟨k, h⟩ := chk_s h
      refine x_getR (pc := 79) C fX8_34 rfl k2 k dX8_laysMiles_79 ?_
      refine x_bipush (v := 12) (pc := 82) C dX8_laysMiles_82 (by decide) ?_
      refine x_iload_n (pc := 84) C dX8_laysMiles_84 rfl rfl ?_
      refine x_imul (pc := 85) C dX8_laysMiles_85 ?_
      refine x_iload_n (pc := 86) C dX8_laysMiles_86 rfl rfl ?_
      refine x_iadd (pc := 87) C dX8_laysMiles_87 ?_
      obtain ⟨k, h⟩ := chk_s h
      refine x_iald (pc := 88) C k dX8_laysMiles_88 ?_
      refine x_aload_n (pc := 89) C dX8_laysMiles_89 rfl rfl ?_
      obtain ⟨k, h⟩ := chk_s h
      have k2 := k
      obtain ⟨k, h⟩ := chk_s h
      refine x_getR (pc := 90) C fX8_34 rfl k2 k dX8_laysMiles_90 ?_
      refine x_bipush (v := 12) (pc := 93) C dX8_laysMiles_93 (by decide) ?_
      refine x_iload_n (pc := 95) C dX8_laysMiles_95 rfl rfl ?_
      refine x_imul (pc := 96) C dX8_laysMiles_96 ?_
      refine x_iload_n (pc := 97) C dX8_laysMiles_97 rfl rfl ?_
      refine x_iadd (pc := 98) C dX8_laysMiles_98 ?_
      obtain ⟨k, h⟩ := chk_s h
      refine x_iald (pc := 99) C k dX8_laysMiles_99 ?_
      refine x_iadd (pc := 100) C dX8_laysMiles_100 ?_
      refine x_istore (M := [some _, some _, some _, some _, some _]) (pc := 101) C dX8_laysMiles_101 (by decide) rfl ?_
      refine x_aload_n (pc := 103) C dX8_laysMiles_103 rfl rfl ?_
      obtain ⟨k, h⟩ := chk_s h
      have k2 := k
      obtain ⟨k, h⟩ := chk_s h
      refine x_getR (pc := 104) C fX8_34 rfl k2 k dX8_laysMiles_104 ?_
      refine x_bipush (v := 12) (pc := 107) C dX8_laysMiles_107 (by decide) ?_
      refine x_iload_n (pc := 109) C dX8_laysMiles_109 rfl rfl ?_
      refine x_imul (pc := 110) C dX8_laysMiles_110 ?_
      refine x_iload_n (pc := 111) C dX8_laysMiles_111 rfl rfl ?_
      refine x_iadd (pc := 112) C dX8_laysMiles_112 ?_
      refine x_aload_n (pc := 113) C dX8_laysMiles_113 rfl rfl ?_
      obtain ⟨k, h⟩ := chk_s h
      have k2 := k
      obtain ⟨k, h⟩ := chk_s h
      refine x_getR (pc := 114) C fX8_34 rfl k2 k dX8_laysMiles_114 ?_
      refine x_bipush (v := 12) (pc := 117) C dX8_laysMiles_117 (by decide) ?_
      refine x_iload_n (pc := 119) C dX8_laysMiles_119 rfl rfl ?_
      refine x_imul (pc := 120) C dX8_laysMiles_120 ?_
      refine x_iload_n (pc := 121) C dX8_laysMiles_121 rfl rfl ?_
      refine x_iadd (pc := 122) C dX8_laysMiles_122 ?_
      obtain ⟨k, h⟩ := chk_s h
      refine x_iald (pc := 123) C k dX8_laysMiles_123 ?_
      refine x_iload (pc := 124) C dX8_laysMiles_124 rfl ?_
      refine x_mmin (pc := 126) C oX8_293 mmmin1 mmi mmmin2 ⟨Nat.le_of_ble_eq_true rfl, Nat.le_of_ble_eq_true rfl, Nat.le_of_ble_eq_true rfl, Nat.le_of_ble_eq_true rfl⟩ dX8_laysMiles_126 ?_
      obtain ⟨k, h⟩ := chk_s h
      obtain ⟨σ1, e1, h⟩ := wlet_s h
      refine x_iast (pc := 129) C k dX8_laysMiles_129 (x_eq e1 ?_)
      refine x_iinc (v := 1) (M := [some _, some _, some _, some _, some _]) (pc := 130) C dX8_laysMiles_130 rfl (by decide) (by decide) rfl ?_
      refine x_goto (tgt := 72) (pc := 133) C dX8_laysMiles_133 (by decide) ?_
      exact x_sub (ih _ _ _ _ _ h) (xLe_s (xLe_s (xLe_s (xLe_s (xLe_n xLe_0)))))
def DX8_laysMiles_142 (K56 : Nat → Int32 → Sg → Option (Unit × Sg)) (l0 : Nat) (l1 : Int32) (σ : Sg) : Option (Unit × Sg) :=
  K56 l0 (l1 + (1 : Int32)) σ
theorem tX8_laysMiles_142 {r : Unit} {σ' : Sg} (C : Cx E p s m args meth c RX8 cX8_laysMiles 5) (hr : meth.sig.returnType = none) {K56 : Nat → Int32 → Sg → Option (Unit × Sg)} (hK56 : ∀ (l0 : Nat) (l1 : Int32) (σ : Sg), K56 l0 l1 σ = some (r, σ') → Y E p l e (rmA 3 0 0) s m args below meth c none σ' 0 0 5 0 0 σ 56 [some (.ref (ad E l0)), some (.int l1), none, none, none] []) {l0 : Nat} {l1 : Int32} {σ : Sg} (h : DX8_laysMiles_142 K56 l0 l1 σ = some (r, σ')) : Y E p l e (rmA 3 0 0) s m args below meth c none σ' 0 0 5 0 0 σ 142 [some (.ref (ad E l0)), some (.int l1), none, none, none] [] := by
  unfold DX8_laysMiles_142 at h
  refine x_iinc (v := 1) (M := [some _, some _, none, none, none]) (pc := 142) C dX8_laysMiles_142 rfl (by decide) (by decide) rfl ?_
  refine x_goto (tgt := 56) (pc := 145) C dX8_laysMiles_145 (by decide) ?_
  exact x_sub (hK56 _ _ _ h) (xLe_s (xLe_s (xLe_n (xLe_n (xLe_n xLe_0)))))
def DX8_laysMiles_64 (K56 : Nat → Int32 → Sg → Option (Unit × Sg)) : Nat → Nat → Int32 → Int32 → Sg → Option (Unit × Sg)
  | 0, _, _, _, _ => none
  | n + 1, l0, l1, l2, σ =>
    if (12 : Int32) ≤ l2 then
      DX8_laysMiles_142 K56 l0 l1 σ
    else
      DX8_laysMiles_72 K56 (DX8_laysMiles_64 K56 n) FU l0 l1 l2 (0 : Int32) σ
theorem tX8_laysMiles_64 {r : Unit} {σ' : Sg} (C : Cx E p s m args meth c RX8 cX8_laysMiles 5) (hr : meth.sig.returnType = none) {K56 : Nat → Int32 → Sg → Option (Unit × Sg)} (hK56 : ∀ (l0 : Nat) (l1 : Int32) (σ : Sg), K56 l0 l1 σ = some (r, σ') → Y E p l e (rmA 3 0 0) s m args below meth c none σ' 0 0 5 0 0 σ 56 [some (.ref (ad E l0)), some (.int l1), none, none, none] []) : ∀ (n : Nat) (l0 : Nat) (l1 : Int32) (l2 : Int32) (σ : Sg) (h : DX8_laysMiles_64 K56 n l0 l1 l2 σ = some (r, σ')), Y E p l e (rmA 3 0 0) s m args below meth c none σ' 0 0 5 0 0 σ 64 [some (.ref (ad E l0)), some (.int l1), some (.int l2), none, none] [] := by
  intro n
  induction n with
  | zero => intro l0 l1 l2 σ h; cases h
  | succ n ih =>
    intro l0 l1 l2 σ h
    unfold DX8_laysMiles_64 at h
    refine x_iload_n (pc := 64) C dX8_laysMiles_64 rfl rfl ?_
    refine x_bipush (v := 12) (pc := 65) C dX8_laysMiles_65 (by decide) ?_
    refine x_icmp_ge (pc := 67) (tgt := 142) C dX8_laysMiles_67 (by decide) (fun q => ?_) (fun q => ?_)
    · rw [if_pos q] at h
      exact x_sub (tX8_laysMiles_142 C hr hK56 h) (xLe_s (xLe_s (xLe_n (xLe_n (xLe_n xLe_0)))))
    · rw [if_neg q] at h
      refine x_iconst (v := 0) (pc := 70) C dX8_laysMiles_70 (by decide) ?_
      refine x_istore_n (M := [some _, some _, some _, some _, none]) (pc := 71) C dX8_laysMiles_71 rfl (by decide) rfl ?_
      exact x_sub (tX8_laysMiles_72 C hr hK56 ih FU _ _ _ _ _ h) (xLe_s (xLe_s (xLe_s (xLe_s (xLe_n xLe_0)))))
def DX8_laysMiles_148 (σ : Sg) : Option (Unit × Sg) :=
  some ((), σ)
theorem tX8_laysMiles_148 {r : Unit} {σ' : Sg} (C : Cx E p s m args meth c RX8 cX8_laysMiles 5) (hr : meth.sig.returnType = none) {σ : Sg} (h : DX8_laysMiles_148  σ = some (r, σ')) : Y E p l e (rmA 3 0 0) s m args below meth c none σ' 0 0 5 0 0 σ 148 [none, none, none, none, none] [] := by
  unfold DX8_laysMiles_148 at h
  cases h
  exact x_vret C hr dX8_laysMiles_148
def DX8_laysMiles_56 : Nat → Nat → Int32 → Sg → Option (Unit × Sg)
  | 0, _, _, _ => none
  | n + 1, l0, l1, σ =>
    if (12 : Int32) ≤ l1 then
      DX8_laysMiles_148 σ
    else
      DX8_laysMiles_64 (DX8_laysMiles_56 n) FU l0 l1 (0 : Int32) σ
theorem tX8_laysMiles_56 {r : Unit} {σ' : Sg} (C : Cx E p s m args meth c RX8 cX8_laysMiles 5) (hr : meth.sig.returnType = none) : ∀ (n : Nat) (l0 : Nat) (l1 : Int32) (σ : Sg) (h : DX8_laysMiles_56 n l0 l1 σ = some (r, σ')), Y E p l e (rmA 3 0 0) s m args below meth c none σ' 0 0 5 0 0 σ 56 [some (.ref (ad E l0)), some (.int l1), none, none, none] [] := by
  intro n
  induction n with
  | zero => intro l0 l1 σ h; cases h
  | succ n ih =>
    intro l0 l1 σ h
    unfold DX8_laysMiles_56 at h
    refine x_iload_n (pc := 56) C dX8_laysMiles_56 rfl rfl ?_
    refine x_bipush (v := 12) (pc := 57) C dX8_laysMiles_57 (by decide) ?_
    refine x_icmp_ge (pc := 59) (tgt := 148) C dX8_laysMiles_59 (by decide) (fun q => ?_) (fun q => ?_)
    · rw [if_pos q] at h
      exact x_sub (tX8_laysMiles_148 C hr h) (xLe_n (xLe_n (xLe_n (xLe_n (xLe_n xLe_0)))))
    · rw [if_neg q] at h
      refine x_iconst (v := 0) (pc := 62) C dX8_laysMiles_62 (by decide) ?_
      refine x_istore_n (M := [some _, some _, some _, none, none]) (pc := 63) C dX8_laysMiles_63 rfl (by decide) rfl ?_
      exact x_sub (tX8_laysMiles_64 C hr ih FU _ _ _ _ h) (xLe_s (xLe_s (xLe_s (xLe_n (xLe_n xLe_0)))))
def DX8_laysMiles_54 (l0 : Nat) (σ : Sg) : Option (Unit × Sg) :=
  DX8_laysMiles_56 FU l0 (0 : Int32) σ
theorem tX8_laysMiles_54 {r : Unit} {σ' : Sg} (C : Cx E p s m args meth c RX8 cX8_laysMiles 5) (hr : meth.sig.returnType = none) {l0 : Nat} {σ : Sg} (h : DX8_laysMiles_54 l0 σ = some (r, σ')) : Y E p l e (rmA 3 0 0) s m args below meth c none σ' 0 0 5 0 0 σ 54 [some (.ref (ad E l0)), none, none, none, none] [] := by
  unfold DX8_laysMiles_54 at h
  refine x_iconst (v := 0) (pc := 54) C dX8_laysMiles_54 (by decide) ?_
  refine x_istore_n (M := [some _, some _, none, none, none]) (pc := 55) C dX8_laysMiles_55 rfl (by decide) rfl ?_
  exact x_sub (tX8_laysMiles_56 C hr FU _ _ _ h) (xLe_s (xLe_s (xLe_n (xLe_n (xLe_n xLe_0)))))
def DX8_laysMiles_2 : Nat → Nat → Int32 → Sg → Option (Unit × Sg)
  | 0, _, _, _ => none
  | n + 1, l0, l1, σ =>
    if (12 : Int32) ≤ l1 then
      DX8_laysMiles_54 l0 σ
    else
      DX8_laysMiles_10 (DX8_laysMiles_2 n) FU l0 l1 (0 : Int32) σ
theorem tX8_laysMiles_2 {r : Unit} {σ' : Sg} (C : Cx E p s m args meth c RX8 cX8_laysMiles 5) (hr : meth.sig.returnType = none) : ∀ (n : Nat) (l0 : Nat) (l1 : Int32) (σ : Sg) (h : DX8_laysMiles_2 n l0 l1 σ = some (r, σ')), Y E p l e (rmA 3 0 0) s m args below meth c none σ' 0 0 5 0 0 σ 2 [some (.ref (ad E l0)), some (.int l1), none, none, none] [] := by
  intro n
  induction n with
  | zero => intro l0 l1 σ h; cases h
  | succ n ih =>
    intro l0 l1 σ h
    unfold DX8_laysMiles_2 at h
    refine x_iload_n (pc := 2) C dX8_laysMiles_2 rfl rfl ?_
    refine x_bipush (v := 12) (pc := 3) C dX8_laysMiles_3 (by decide) ?_
    refine x_icmp_ge (pc := 5) (tgt := 54) C dX8_laysMiles_5 (by decide) (fun q => ?_) (fun q => ?_)
    · rw [if_pos q] at h
      exact x_sub (tX8_laysMiles_54 C hr h) (xLe_s (xLe_n (xLe_n (xLe_n (xLe_n xLe_0)))))
    · rw [if_neg q] at h
      refine x_iconst (v := 0) (pc := 8) C dX8_laysMiles_8 (by decide) ?_
      refine x_istore_n (M := [some _, some _, some _, none, none]) (pc := 9) C dX8_laysMiles_9 rfl (by decide) rfl ?_
      exact x_sub (tX8_laysMiles_10 C hr ih FU _ _ _ _ h) (xLe_s (xLe_s (xLe_s (xLe_n (xLe_n xLe_0)))))
def DX8_laysMiles (l0 : Nat) (σ : Sg) : Option (Unit × Sg) :=
  DX8_laysMiles_2 FU l0 (0 : Int32) σ
theorem mX8_laysMiles (E : Ev) (l : Launch) {l0 : Nat} {σ : Sg} {r : Unit} {σ' : Sg} (h : DX8_laysMiles l0 σ = some (r, σ')) : Mt E l yX8_laysMiles cX8_laysMiles 5 none 3 0 0 [.ref (ad E l0)] σ none σ' := by
  refine Mt.ofX (by decide) (Nat.le_of_ble_eq_true rfl) (L0 := [some (.ref (ad E l0)), none, none, none, none]) (xEntN_ok [.ref (ad E l0)] 5) (fun p e s m args below meth c C hr hn => ?_)
  unfold DX8_laysMiles at h
  refine x_iconst (v := 0) (pc := 0) C dX8_laysMiles_0 (by decide) ?_
  refine x_istore_n (M := [some _, some _, none, none, none]) (pc := 1) C dX8_laysMiles_1 rfl (by decide) rfl ?_
  exact x_sub (tX8_laysMiles_2 C hr FU _ _ _ h) (xLe_s (xLe_s (xLe_n (xLe_n (xLe_n xLe_0)))))
def DX8_init (l0 : Nat) (σ : Sg) : Option (Unit × Sg) :=
  chk (ckW σ 2 1200 0) <|
  bnd (some (gN σ, mk1 σ)) fun a2 σ1 =>
  chk (ckO σ1 6 l0) <|
  chk (ckV a2) <|
  wlet (pR σ1 l0 1 a2) fun σ3 =>
  chk (ckW σ3 2 72 0) <|
  bnd (some (gN σ3, mk1 σ3)) fun a5 σ4 =>
  chk (ckO σ4 6 l0) <|
  chk (ckV a5) <|
  wlet (pR σ4 l0 12 a5) fun σ6 =>
  chk (ckW σ6 2 10 0) <|
  bnd (some (gN σ6, mk1 σ6)) fun a8 σ7 =>
  chk (ckO σ7 6 l0) <|
  chk (ckV a8) <|
  wlet (pR σ7 l0 13 a8) fun σ9 =>
  chk (ckW σ9 2 96 0) <|
  bnd (some (gN σ9, mk1 σ9)) fun a11 σ10 =>
  chk (ckO σ10 6 l0) <|
  chk (ckV a11) <|
  wlet (pR σ10 l0 14 a11) fun σ12 =>
  chk (ckW σ12 2 64 0) <|
  bnd (some (gN σ12, mk1 σ12)) fun a14 σ13 =>
  chk (ckO σ13 6 l0) <|
  chk (ckV a14) <|
  wlet (pR σ13 l0 15 a14) fun σ15 =>
  chk (ckW σ15 2 32 0) <|
  bnd (some (gN σ15, mk1 σ15)) fun a17 σ16 =>
  chk (ckO σ16 6 l0) <|
  chk (ckV a17) <|
  wlet (pR σ16 l0 16 a17) fun σ18 =>
  chk (ckW σ18 2 64 0) <|
  bnd (some (gN σ18, mk1 σ18)) fun a20 σ19 =>
  chk (ckO σ19 6 l0) <|
  chk (ckV a20) <|
  wlet (pR σ19 l0 17 a20) fun σ21 =>
  chk (ckW σ21 2 64 0) <|
  bnd (some (gN σ21, mk1 σ21)) fun a23 σ22 =>
  chk (ckO σ22 6 l0) <|
  chk (ckV a23) <|
  wlet (pR σ22 l0 18 a23) fun σ24 =>
  chk (ckW σ24 2 144 0) <|
  bnd (some (gN σ24, mk1 σ24)) fun a26 σ25 =>
  chk (ckO σ25 6 l0) <|
  chk (ckV a26) <|
  wlet (pR σ25 l0 19 a26) fun σ27 =>
  chk (ckW σ27 2 242 0) <|
  bnd (some (gN σ27, mk1 σ27)) fun a29 σ28 =>
  chk (ckO σ28 6 l0) <|
  chk (ckV a29) <|
  wlet (pR σ28 l0 20 a29) fun σ30 =>
  chk (ckW σ30 2 3388 0) <|
  bnd (some (gN σ30, mk1 σ30)) fun a32 σ31 =>
  chk (ckO σ31 6 l0) <|
  chk (ckV a32) <|
  wlet (pR σ31 l0 21 a32) fun σ33 =>
  chk (ckO σ33 6 l0) <|
  wlet (pI σ33 l0 32 (-1 : Int32)) fun σ34 =>
  chk (ckW σ34 2 12 0) <|
  bnd (some (gN σ34, mk1 σ34)) fun a36 σ35 =>
  chk (ckO σ35 6 l0) <|
  chk (ckV a36) <|
  wlet (pR σ35 l0 34 a36) fun σ37 =>
  chk (ckW σ37 2 6 0) <|
  bnd (some (gN σ37, mk1 σ37)) fun a39 σ38 =>
  chk (ckO σ38 6 l0) <|
  chk (ckV a39) <|
  wlet (pR σ38 l0 35 a39) fun σ40 =>
  chk (ckW σ40 2 8 0) <|
  bnd (some (gN σ40, mk1 σ40)) fun a42 σ41 =>
  chk (ckO σ41 6 l0) <|
  chk (ckV a42) <|
  wlet (pR σ41 l0 36 a42) fun σ43 =>
  chk (ckW σ43 2 64 0) <|
  bnd (some (gN σ43, mk1 σ43)) fun a45 σ44 =>
  chk (ckO σ44 6 l0) <|
  chk (ckV a45) <|
  wlet (pR σ44 l0 37 a45) fun σ46 =>
  chk (ckW σ46 2 500 0) <|
  bnd (some (gN σ46, mk1 σ46)) fun a48 σ47 =>
  chk (ckO σ47 6 l0) <|
  chk (ckV a48) <|
  wlet (pR σ47 l0 38 a48) fun σ49 =>
  chk (ckW σ49 2 9 0) <|
  bnd (some (gN σ49, mk1 σ49)) fun a51 σ50 =>
  chk (ckO σ50 6 l0) <|
  chk (ckV a51) <|
  wlet (pR σ50 l0 39 a51) fun σ52 =>
  chk (ckW σ52 4 8 0) <|
  bnd (some (gN σ52, mk1 σ52)) fun a54 σ53 =>
  chk (ckO σ53 6 l0) <|
  chk (ckV a54) <|
  wlet (pR σ53 l0 40 a54) fun σ55 =>
  chk (ckW σ55 4 8 0) <|
  bnd (some (gN σ55, mk1 σ55)) fun a57 σ56 =>
  chk (ckO σ56 6 l0) <|
  chk (ckV a57) <|
  wlet (pR σ56 l0 41 a57) fun σ58 =>
  chk (ckW σ58 4 8 0) <|
  bnd (some (gN σ58, mk1 σ58)) fun a60 σ59 =>
  chk (ckO σ59 6 l0) <|
  chk (ckV a60) <|
  wlet (pR σ59 l0 42 a60) fun σ61 =>
  chk (ckW σ61 4 8 0) <|
  bnd (some (gN σ61, mk1 σ61)) fun a63 σ62 =>
  chk (ckO σ62 6 l0) <|
  chk (ckV a63) <|
  wlet (pR σ62 l0 43 a63) fun σ64 =>
  chk (ckW σ64 2 8 0) <|
  bnd (some (gN σ64, mk1 σ64)) fun a66 σ65 =>
  chk (ckO σ65 6 l0) <|
  chk (ckV a66) <|
  wlet (pR σ65 l0 44 a66) fun σ67 =>
  chk (ckW σ67 2 8 0) <|
  bnd (some (gN σ67, mk1 σ67)) fun a69 σ68 =>
  chk (ckO σ68 6 l0) <|
  chk (ckV a69) <|
  wlet (pR σ68 l0 45 a69) fun σ70 =>
  chk (ckW σ70 3 8 0) <|
  bnd (some (gN σ70, mk1 σ70)) fun a72 σ71 =>
  chk (ckO σ71 6 l0) <|
  chk (ckV a72) <|
  wlet (pR σ71 l0 46 a72) fun σ73 =>
  chk (ckW σ73 2 8 0) <|
  bnd (some (gN σ73, mk1 σ73)) fun a75 σ74 =>
  chk (ckO σ74 6 l0) <|
  chk (ckV a75) <|
  wlet (pR σ74 l0 51 a75) fun σ76 =>
  chk (ckW σ76 2 8 0) <|
  bnd (some (gN σ76, mk1 σ76)) fun a78 σ77 =>
  chk (ckO σ77 6 l0) <|
  chk (ckV a78) <|
  wlet (pR σ77 l0 52 a78) fun σ79 =>
  chk (ckW σ79 2 6 0) <|
  bnd (some (gN σ79, mk1 σ79)) fun a81 σ80 =>
  chk (ckO σ80 6 l0) <|
  chk (ckV a81) <|
  wlet (pR σ80 l0 53 a81) fun σ82 =>
  chk (ckW σ82 2 6 0) <|
  bnd (some (gN σ82, mk1 σ82)) fun a84 σ83 =>
  chk (ckO σ83 6 l0) <|
  chk (ckV a84) <|
  wlet (pR σ83 l0 54 a84) fun σ85 =>
  chk (ckW σ85 2 6 0) <|
  bnd (some (gN σ85, mk1 σ85)) fun a87 σ86 =>
  chk (ckO σ86 6 l0) <|
  chk (ckV a87) <|
  wlet (pR σ86 l0 55 a87) fun σ88 =>
  chk (ckW σ88 2 6 0) <|
  bnd (some (gN σ88, mk1 σ88)) fun a90 σ89 =>
  chk (ckO σ89 6 l0) <|
  chk (ckV a90) <|
  wlet (pR σ89 l0 56 a90) fun σ91 =>
  chk (ckO σ91 6 l0) <|
  wlet (pI σ91 l0 10 (10 : Int32)) fun σ92 =>
  chk (ckO σ92 6 l0) <|
  bnd (DX8_laysMiles l0 σ92) fun _ σ93 =>
  some ((), σ93)
theorem mX8_init (E : Ev) (l : Launch) {l0 : Nat} {σ : Sg} {r : Unit} {σ' : Sg} (h : DX8_init l0 σ = some (r, σ')) : Mt E l yX8_init cX8_init 1 none 4 30 6071 [.ref (ad E l0)] σ none σ' := by
  refine Mt.ofX (by decide) (Nat.le_of_ble_eq_true rfl) (L0 := [some (.ref (ad E l0))]) (xEntN_ok [.ref (ad E l0)] 1) (fun p e s m args below meth c C hr hn => ?_)
  unfold DX8_init at h
  refine x_aload_n (pc := 0) C dX8_init_0 rfl rfl ?_
  refine x_objInit (pc := 1) C oX8_1 oi1 oi2 ⟨Nat.le_of_ble_eq_true rfl, Nat.le_of_ble_eq_true rfl⟩ dX8_init_1 ?_
  refine x_aload_n (pc := 4) C dX8_init_4 rfl rfl ?_
  refine x_sipush (v := 1200) (pc := 5) C dX8_init_5 (by decide) ?_
  obtain ⟨k, h⟩ := chk_s h
  have k2 := k
  obtain ⟨a2, σ1, e1, h⟩ := bnd_s h
  refine x_newI (N := 1200) (pc := 8) C aaI (by decide) (by decide) k2 (by decide) ⟨Nat.le_of_ble_eq_true rfl, Nat.le_of_ble_eq_true rfl⟩ dX8_init_8 (x_mkE e1 ?_)
  obtain ⟨k, h⟩ := chk_s h
  have k2 := k
  obtain ⟨k, h⟩ := chk_s h
  obtain ⟨σ3, e1, h⟩ := wlet_s h
  refine x_putQ (pc := 10) C qX8_7 hn (Or.inr ⟨_, rfl⟩) k2 k dX8_init_10 (x_eq e1 ?_)
  refine x_aload_n (pc := 13) C dX8_init_13 rfl rfl ?_
  refine x_bipush (v := 72) (pc := 14) C dX8_init_14 (by decide) ?_
  obtain ⟨k, h⟩ := chk_s h
  have k2 := k
  obtain ⟨a5, σ4, e1, h⟩ := bnd_s h
  refine x_newI (N := 72) (pc := 16) C aaI (by decide) (by decide) k2 (by decide) ⟨Nat.le_of_ble_eq_true rfl, Nat.le_of_ble_eq_true rfl⟩ dX8_init_16 (x_mkE e1 ?_)
  obtain ⟨k, h⟩ := chk_s h
  have k2 := k
  obtain ⟨k, h⟩ := chk_s h
  obtain ⟨σ6, e1, h⟩ := wlet_s h
  refine x_putQ (pc := 18) C qX8_13 hn (Or.inr ⟨_, rfl⟩) k2 k dX8_init_18 (x_eq e1 ?_)
  refine x_aload_n (pc := 21) C dX8_init_21 rfl rfl ?_
  refine x_bipush (v := 10) (pc := 22) C dX8_init_22 (by decide) ?_
  obtain ⟨k, h⟩ := chk_s h
  have k2 := k
  obtain ⟨a8, σ7, e1, h⟩ := bnd_s h
  refine x_newI (N := 10) (pc := 24) C aaI (by decide) (by decide) k2 (by decide) ⟨Nat.le_of_ble_eq_true rfl, Nat.le_of_ble_eq_true rfl⟩ dX8_init_24 (x_mkE e1 ?_)
  obtain ⟨k, h⟩ := chk_s h
  have k2 := k
  obtain ⟨k, h⟩ := chk_s h
  obtain ⟨σ9, e1, h⟩ := wlet_s h
  refine x_putQ (pc := 26) C qX8_16 hn (Or.inr ⟨_, rfl⟩) k2 k dX8_init_26 (x_eq e1 ?_)
  refine x_aload_n (pc := 29) C dX8_init_29 rfl rfl ?_
  refine x_bipush (v := 96) (pc := 30) C dX8_init_30 (by decide) ?_
  obtain ⟨k, h⟩ := chk_s h
  have k2 := k
  obtain ⟨a11, σ10, e1, h⟩ := bnd_s h
  refine x_newI (N := 96) (pc := 32) C aaI (by decide) (by decide) k2 (by decide) ⟨Nat.le_of_ble_eq_true rfl, Nat.le_of_ble_eq_true rfl⟩ dX8_init_32 (x_mkE e1 ?_)
  obtain ⟨k, h⟩ := chk_s h
  have k2 := k
  obtain ⟨k, h⟩ := chk_s h
  obtain ⟨σ12, e1, h⟩ := wlet_s h
  refine x_putQ (pc := 34) C qX8_19 hn (Or.inr ⟨_, rfl⟩) k2 k dX8_init_34 (x_eq e1 ?_)
  refine x_aload_n (pc := 37) C dX8_init_37 rfl rfl ?_
  refine x_bipush (v := 64) (pc := 38) C dX8_init_38 (by decide) ?_
  obtain ⟨k, h⟩ := chk_s h
  have k2 := k
  obtain ⟨a14, σ13, e1, h⟩ := bnd_s h
  refine x_newI (N := 64) (pc := 40) C aaI (by decide) (by decide) k2 (by decide) ⟨Nat.le_of_ble_eq_true rfl, Nat.le_of_ble_eq_true rfl⟩ dX8_init_40 (x_mkE e1 ?_)
  obtain ⟨k, h⟩ := chk_s h
  have k2 := k
  obtain ⟨k, h⟩ := chk_s h
  obtain ⟨σ15, e1, h⟩ := wlet_s h
  refine x_putQ (pc := 42) C qX8_22 hn (Or.inr ⟨_, rfl⟩) k2 k dX8_init_42 (x_eq e1 ?_)
  refine x_aload_n (pc := 45) C dX8_init_45 rfl rfl ?_
  refine x_bipush (v := 32) (pc := 46) C dX8_init_46 (by decide) ?_
  obtain ⟨k, h⟩ := chk_s h
  have k2 := k
  obtain ⟨a17, σ16, e1, h⟩ := bnd_s h
  refine x_newI (N := 32) (pc := 48) C aaI (by decide) (by decide) k2 (by decide) ⟨Nat.le_of_ble_eq_true rfl, Nat.le_of_ble_eq_true rfl⟩ dX8_init_48 (x_mkE e1 ?_)
  obtain ⟨k, h⟩ := chk_s h
  have k2 := k
  obtain ⟨k, h⟩ := chk_s h
  obtain ⟨σ18, e1, h⟩ := wlet_s h
  refine x_putQ (pc := 50) C qX8_25 hn (Or.inr ⟨_, rfl⟩) k2 k dX8_init_50 (x_eq e1 ?_)
  refine x_aload_n (pc := 53) C dX8_init_53 rfl rfl ?_
  refine x_bipush (v := 64) (pc := 54) C dX8_init_54 (by decide) ?_
  obtain ⟨k, h⟩ := chk_s h
  have k2 := k
  obtain ⟨a20, σ19, e1, h⟩ := bnd_s h
  refine x_newI (N := 64) (pc := 56) C aaI (by decide) (by decide) k2 (by decide) ⟨Nat.le_of_ble_eq_true rfl, Nat.le_of_ble_eq_true rfl⟩ dX8_init_56 (x_mkE e1 ?_)
  obtain ⟨k, h⟩ := chk_s h
  have k2 := k
  obtain ⟨k, h⟩ := chk_s h
  obtain ⟨σ21, e1, h⟩ := wlet_s h
  refine x_putQ (pc := 58) C qX8_28 hn (Or.inr ⟨_, rfl⟩) k2 k dX8_init_58 (x_eq e1 ?_)
  refine x_aload_n (pc := 61) C dX8_init_61 rfl rfl ?_
  refine x_bipush (v := 64) (pc := 62) C dX8_init_62 (by decide) ?_
  obtain ⟨k, h⟩ := chk_s h
  have k2 := k
  obtain ⟨a23, σ22, e1, h⟩ := bnd_s h
  refine x_newI (N := 64) (pc := 64) C aaI (by decide) (by decide) k2 (by decide) ⟨Nat.le_of_ble_eq_true rfl, Nat.le_of_ble_eq_true rfl⟩ dX8_init_64 (x_mkE e1 ?_)
  obtain ⟨k, h⟩ := chk_s h
  have k2 := k
  obtain ⟨k, h⟩ := chk_s h
  obtain ⟨σ24, e1, h⟩ := wlet_s h
  refine x_putQ (pc := 66) C qX8_31 hn (Or.inr ⟨_, rfl⟩) k2 k dX8_init_66 (x_eq e1 ?_)
  refine x_aload_n (pc := 69) C dX8_init_69 rfl rfl ?_
  refine x_sipush (v := 144) (pc := 70) C dX8_init_70 (by decide) ?_
  obtain ⟨k, h⟩ := chk_s h
  have k2 := k
  obtain ⟨a26, σ25, e1, h⟩ := bnd_s h
  refine x_newI (N := 144) (pc := 73) C aaI (by decide) (by decide) k2 (by decide) ⟨Nat.le_of_ble_eq_true rfl, Nat.le_of_ble_eq_true rfl⟩ dX8_init_73 (x_mkE e1 ?_)
  obtain ⟨k, h⟩ := chk_s h
  have k2 := k
  obtain ⟨k, h⟩ := chk_s h
  obtain ⟨σ27, e1, h⟩ := wlet_s h
  refine x_putQ (pc := 75) C qX8_34 hn (Or.inr ⟨_, rfl⟩) k2 k dX8_init_75 (x_eq e1 ?_)
  refine x_aload_n (pc := 78) C dX8_init_78 rfl rfl ?_
  refine x_sipush (v := 242) (pc := 79) C dX8_init_79 (by decide) ?_
  obtain ⟨k, h⟩ := chk_s h
  have k2 := k
  obtain ⟨a29, σ28, e1, h⟩ := bnd_s h
  refine x_newI (N := 242) (pc := 82) C aaI (by decide) (by decide) k2 (by decide) ⟨Nat.le_of_ble_eq_true rfl, Nat.le_of_ble_eq_true rfl⟩ dX8_init_82 (x_mkE e1 ?_)
  obtain ⟨k, h⟩ := chk_s h
  have k2 := k
  obtain ⟨k, h⟩ := chk_s h
  obtain ⟨σ30, e1, h⟩ := wlet_s h
  refine x_putQ (pc := 84) C qX8_37 hn (Or.inr ⟨_, rfl⟩) k2 k dX8_init_84 (x_eq e1 ?_)
  refine x_aload_n (pc := 87) C dX8_init_87 rfl rfl ?_
  refine x_sipush (v := 3388) (pc := 88) C dX8_init_88 (by decide) ?_
  obtain ⟨k, h⟩ := chk_s h
  have k2 := k
  obtain ⟨a32, σ31, e1, h⟩ := bnd_s h
  refine x_newI (N := 3388) (pc := 91) C aaI (by decide) (by decide) k2 (by decide) ⟨Nat.le_of_ble_eq_true rfl, Nat.le_of_ble_eq_true rfl⟩ dX8_init_91 (x_mkE e1 ?_)
  obtain ⟨k, h⟩ := chk_s h
  have k2 := k
  obtain ⟨k, h⟩ := chk_s h
  obtain ⟨σ33, e1, h⟩ := wlet_s h
  refine x_putQ (pc := 93) C qX8_40 hn (Or.inr ⟨_, rfl⟩) k2 k dX8_init_93 (x_eq e1 ?_)
  refine x_aload_n (pc := 96) C dX8_init_96 rfl rfl ?_
  refine x_iconst (v := -1) (pc := 97) C dX8_init_97 (by decide) ?_
  obtain ⟨k, h⟩ := chk_s h
  obtain ⟨σ34, e1, h⟩ := wlet_s h
  refine x_putI (pc := 98) C pX8_43 rfl k dX8_init_98 (x_eq e1 ?_)
  refine x_aload_n (pc := 101) C dX8_init_101 rfl rfl ?_
  refine x_bipush (v := 12) (pc := 102) C dX8_init_102 (by decide) ?_
  obtain ⟨k, h⟩ := chk_s h
  have k2 := k
  obtain ⟨a36, σ35, e1, h⟩ := bnd_s h
  refine x_newI (N := 12) (pc := 104) C aaI (by decide) (by decide) k2 (by decide) ⟨Nat.le_of_ble_eq_true rfl, Nat.le_of_ble_eq_true rfl⟩ dX8_init_104 (x_mkE e1 ?_)
  obtain ⟨k, h⟩ := chk_s h
  have k2 := k
  obtain ⟨k, h⟩ := chk_s h
  obtain ⟨σ37, e1, h⟩ := wlet_s h
  refine x_putQ (pc := 106) C qX8_47 hn (Or.inr ⟨_, rfl⟩) k2 k dX8_init_106 (x_eq e1 ?_)
  refine x_aload_n (pc := 109) C dX8_init_109 rfl rfl ?_
  refine x_bipush (v := 6) (pc := 110) C dX8_init_110 (by decide) ?_
  obtain ⟨k, h⟩ := chk_s h
  have k2 := k
  obtain ⟨a39, σ38, e1, h⟩ := bnd_s h
  refine x_newI (N := 6) (pc := 112) C aaI (by decide) (by decide) k2 (by decide) ⟨Nat.le_of_ble_eq_true rfl, Nat.le_of_ble_eq_true rfl⟩ dX8_init_112 (x_mkE e1 ?_)
  obtain ⟨k, h⟩ := chk_s h
  have k2 := k
  obtain ⟨k, h⟩ := chk_s h
  obtain ⟨σ40, e1, h⟩ := wlet_s h
  refine x_putQ (pc := 114) C qX8_50 hn (Or.inr ⟨_, rfl⟩) k2 k dX8_init_114 (x_eq e1 ?_)
  refine x_aload_n (pc := 117) C dX8_init_117 rfl rfl ?_
  refine x_bipush (v := 8) (pc := 118) C dX8_init_118 (by decide) ?_
  obtain ⟨k, h⟩ := chk_s h
  have k2 := k
  obtain ⟨a42, σ41, e1, h⟩ := bnd_s h
  refine x_newI (N := 8) (pc := 120) C aaI (by decide) (by decide) k2 (by decide) ⟨Nat.le_of_ble_eq_true rfl, Nat.le_of_ble_eq_true rfl⟩ dX8_init_120 (x_mkE e1 ?_)
  obtain ⟨k, h⟩ := chk_s h
  have k2 := k
  obtain ⟨k, h⟩ := chk_s h
  obtain ⟨σ43, e1, h⟩ := wlet_s h
  refine x_putQ (pc := 122) C qX8_53 hn (Or.inr ⟨_, rfl⟩) k2 k dX8_init_122 (x_eq e1 ?_)
  refine x_aload_n (pc := 125) C dX8_init_125 rfl rfl ?_
  refine x_bipush (v := 64) (pc := 126) C dX8_init_126 (by decide) ?_
  obtain ⟨k, h⟩ := chk_s h
  have k2 := k
  obtain ⟨a45, σ44, e1, h⟩ := bnd_s h
  refine x_newI (N := 64) (pc := 128) C aaI (by decide) (by decide) k2 (by decide) ⟨Nat.le_of_ble_eq_true rfl, Nat.le_of_ble_eq_true rfl⟩ dX8_init_128 (x_mkE e1 ?_)
  obtain ⟨k, h⟩ := chk_s h
  have k2 := k
  obtain ⟨k, h⟩ := chk_s h
  obtain ⟨σ46, e1, h⟩ := wlet_s h
  refine x_putQ (pc := 130) C qX8_56 hn (Or.inr ⟨_, rfl⟩) k2 k dX8_init_130 (x_eq e1 ?_)
  refine x_aload_n (pc := 133) C dX8_init_133 rfl rfl ?_
  refine x_sipush (v := 500) (pc := 134) C dX8_init_134 (by decide) ?_
  obtain ⟨k, h⟩ := chk_s h
  have k2 := k
  obtain ⟨a48, σ47, e1, h⟩ := bnd_s h
  refine x_newI (N := 500) (pc := 137) C aaI (by decide) (by decide) k2 (by decide) ⟨Nat.le_of_ble_eq_true rfl, Nat.le_of_ble_eq_true rfl⟩ dX8_init_137 (x_mkE e1 ?_)
  obtain ⟨k, h⟩ := chk_s h
  have k2 := k
  obtain ⟨k, h⟩ := chk_s h
  obtain ⟨σ49, e1, h⟩ := wlet_s h
  refine x_putQ (pc := 139) C qX8_59 hn (Or.inr ⟨_, rfl⟩) k2 k dX8_init_139 (x_eq e1 ?_)
  refine x_aload_n (pc := 142) C dX8_init_142 rfl rfl ?_
  refine x_bipush (v := 9) (pc := 143) C dX8_init_143 (by decide) ?_
  obtain ⟨k, h⟩ := chk_s h
  have k2 := k
  obtain ⟨a51, σ50, e1, h⟩ := bnd_s h
  refine x_newI (N := 9) (pc := 145) C aaI (by decide) (by decide) k2 (by decide) ⟨Nat.le_of_ble_eq_true rfl, Nat.le_of_ble_eq_true rfl⟩ dX8_init_145 (x_mkE e1 ?_)
  obtain ⟨k, h⟩ := chk_s h
  have k2 := k
  obtain ⟨k, h⟩ := chk_s h
  obtain ⟨σ52, e1, h⟩ := wlet_s h
  refine x_putQ (pc := 147) C qX8_62 hn (Or.inr ⟨_, rfl⟩) k2 k dX8_init_147 (x_eq e1 ?_)
  refine x_aload_n (pc := 150) C dX8_init_150 rfl rfl ?_
  refine x_bipush (v := 8) (pc := 151) C dX8_init_151 (by decide) ?_
  obtain ⟨k, h⟩ := chk_s h
  have k2 := k
  obtain ⟨a54, σ53, e1, h⟩ := bnd_s h
  refine x_newJ (N := 8) (pc := 153) C aaJ (by decide) (by decide) k2 (by decide) ⟨Nat.le_of_ble_eq_true rfl, Nat.le_of_ble_eq_true rfl⟩ dX8_init_153 (x_mkE e1 ?_)
  obtain ⟨k, h⟩ := chk_s h
  have k2 := k
  obtain ⟨k, h⟩ := chk_s h
  obtain ⟨σ55, e1, h⟩ := wlet_s h
  refine x_putQ (pc := 155) C qX8_65 hn (Or.inr ⟨_, rfl⟩) k2 k dX8_init_155 (x_eq e1 ?_)
  refine x_aload_n (pc := 158) C dX8_init_158 rfl rfl ?_
  refine x_bipush (v := 8) (pc := 159) C dX8_init_159 (by decide) ?_
  obtain ⟨k, h⟩ := chk_s h
  have k2 := k
  obtain ⟨a57, σ56, e1, h⟩ := bnd_s h
  refine x_newJ (N := 8) (pc := 161) C aaJ (by decide) (by decide) k2 (by decide) ⟨Nat.le_of_ble_eq_true rfl, Nat.le_of_ble_eq_true rfl⟩ dX8_init_161 (x_mkE e1 ?_)
  obtain ⟨k, h⟩ := chk_s h
  have k2 := k
  obtain ⟨k, h⟩ := chk_s h
  obtain ⟨σ58, e1, h⟩ := wlet_s h
  refine x_putQ (pc := 163) C qX8_69 hn (Or.inr ⟨_, rfl⟩) k2 k dX8_init_163 (x_eq e1 ?_)
  refine x_aload_n (pc := 166) C dX8_init_166 rfl rfl ?_
  refine x_bipush (v := 8) (pc := 167) C dX8_init_167 (by decide) ?_
  obtain ⟨k, h⟩ := chk_s h
  have k2 := k
  obtain ⟨a60, σ59, e1, h⟩ := bnd_s h
  refine x_newJ (N := 8) (pc := 169) C aaJ (by decide) (by decide) k2 (by decide) ⟨Nat.le_of_ble_eq_true rfl, Nat.le_of_ble_eq_true rfl⟩ dX8_init_169 (x_mkE e1 ?_)
  obtain ⟨k, h⟩ := chk_s h
  have k2 := k
  obtain ⟨k, h⟩ := chk_s h
  obtain ⟨σ61, e1, h⟩ := wlet_s h
  refine x_putQ (pc := 171) C qX8_72 hn (Or.inr ⟨_, rfl⟩) k2 k dX8_init_171 (x_eq e1 ?_)
  refine x_aload_n (pc := 174) C dX8_init_174 rfl rfl ?_
  refine x_bipush (v := 8) (pc := 175) C dX8_init_175 (by decide) ?_
  obtain ⟨k, h⟩ := chk_s h
  have k2 := k
  obtain ⟨a63, σ62, e1, h⟩ := bnd_s h
  refine x_newJ (N := 8) (pc := 177) C aaJ (by decide) (by decide) k2 (by decide) ⟨Nat.le_of_ble_eq_true rfl, Nat.le_of_ble_eq_true rfl⟩ dX8_init_177 (x_mkE e1 ?_)
  obtain ⟨k, h⟩ := chk_s h
  have k2 := k
  obtain ⟨k, h⟩ := chk_s h
  obtain ⟨σ64, e1, h⟩ := wlet_s h
  refine x_putQ (pc := 179) C qX8_75 hn (Or.inr ⟨_, rfl⟩) k2 k dX8_init_179 (x_eq e1 ?_)
  refine x_aload_n (pc := 182) C dX8_init_182 rfl rfl ?_
  refine x_bipush (v := 8) (pc := 183) C dX8_init_183 (by decide) ?_
  obtain ⟨k, h⟩ := chk_s h
  have k2 := k
  obtain ⟨a66, σ65, e1, h⟩ := bnd_s h
  refine x_newI (N := 8) (pc := 185) C aaI (by decide) (by decide) k2 (by decide) ⟨Nat.le_of_ble_eq_true rfl, Nat.le_of_ble_eq_true rfl⟩ dX8_init_185 (x_mkE e1 ?_)
  obtain ⟨k, h⟩ := chk_s h
  have k2 := k
  obtain ⟨k, h⟩ := chk_s h
  obtain ⟨σ67, e1, h⟩ := wlet_s h
  refine x_putQ (pc := 187) C qX8_78 hn (Or.inr ⟨_, rfl⟩) k2 k dX8_init_187 (x_eq e1 ?_)
  refine x_aload_n (pc := 190) C dX8_init_190 rfl rfl ?_
  refine x_bipush (v := 8) (pc := 191) C dX8_init_191 (by decide) ?_
  obtain ⟨k, h⟩ := chk_s h
  have k2 := k
  obtain ⟨a69, σ68, e1, h⟩ := bnd_s h
  refine x_newI (N := 8) (pc := 193) C aaI (by decide) (by decide) k2 (by decide) ⟨Nat.le_of_ble_eq_true rfl, Nat.le_of_ble_eq_true rfl⟩ dX8_init_193 (x_mkE e1 ?_)
  obtain ⟨k, h⟩ := chk_s h
  have k2 := k
  obtain ⟨k, h⟩ := chk_s h
  obtain ⟨σ70, e1, h⟩ := wlet_s h
  refine x_putQ (pc := 195) C qX8_81 hn (Or.inr ⟨_, rfl⟩) k2 k dX8_init_195 (x_eq e1 ?_)
  refine x_aload_n (pc := 198) C dX8_init_198 rfl rfl ?_
  refine x_bipush (v := 8) (pc := 199) C dX8_init_199 (by decide) ?_
  obtain ⟨k, h⟩ := chk_s h
  have k2 := k
  obtain ⟨a72, σ71, e1, h⟩ := bnd_s h
  refine x_newZ (N := 8) (pc := 201) C aaZ (by decide) (by decide) k2 (by decide) ⟨Nat.le_of_ble_eq_true rfl, Nat.le_of_ble_eq_true rfl⟩ dX8_init_201 (x_mkE e1 ?_)
  obtain ⟨k, h⟩ := chk_s h
  have k2 := k
  obtain ⟨k, h⟩ := chk_s h
  obtain ⟨σ73, e1, h⟩ := wlet_s h
  refine x_putQ (pc := 203) C qX8_84 hn (Or.inr ⟨_, rfl⟩) k2 k dX8_init_203 (x_eq e1 ?_)
  refine x_aload_n (pc := 206) C dX8_init_206 rfl rfl ?_
  refine x_bipush (v := 8) (pc := 207) C dX8_init_207 (by decide) ?_
  obtain ⟨k, h⟩ := chk_s h
  have k2 := k
  obtain ⟨a75, σ74, e1, h⟩ := bnd_s h
  refine x_newI (N := 8) (pc := 209) C aaI (by decide) (by decide) k2 (by decide) ⟨Nat.le_of_ble_eq_true rfl, Nat.le_of_ble_eq_true rfl⟩ dX8_init_209 (x_mkE e1 ?_)
  obtain ⟨k, h⟩ := chk_s h
  have k2 := k
  obtain ⟨k, h⟩ := chk_s h
  obtain ⟨σ76, e1, h⟩ := wlet_s h
  refine x_putQ (pc := 211) C qX8_88 hn (Or.inr ⟨_, rfl⟩) k2 k dX8_init_211 (x_eq e1 ?_)
  refine x_aload_n (pc := 214) C dX8_init_214 rfl rfl ?_
  refine x_bipush (v := 8) (pc := 215) C dX8_init_215 (by decide) ?_
  obtain ⟨k, h⟩ := chk_s h
  have k2 := k
  obtain ⟨a78, σ77, e1, h⟩ := bnd_s h
  refine x_newI (N := 8) (pc := 217) C aaI (by decide) (by decide) k2 (by decide) ⟨Nat.le_of_ble_eq_true rfl, Nat.le_of_ble_eq_true rfl⟩ dX8_init_217 (x_mkE e1 ?_)
  obtain ⟨k, h⟩ := chk_s h
  have k2 := k
  obtain ⟨k, h⟩ := chk_s h
  obtain ⟨σ79, e1, h⟩ := wlet_s h
  refine x_putQ (pc := 219) C qX8_91 hn (Or.inr ⟨_, rfl⟩) k2 k dX8_init_219 (x_eq e1 ?_)
  refine x_aload_n (pc := 222) C dX8_init_222 rfl rfl ?_
  refine x_bipush (v := 6) (pc := 223) C dX8_init_223 (by decide) ?_
  obtain ⟨k, h⟩ := chk_s h
  have k2 := k
  obtain ⟨a81, σ80, e1, h⟩ := bnd_s h
  refine x_newI (N := 6) (pc := 225) C aaI (by decide) (by decide) k2 (by decide) ⟨Nat.le_of_ble_eq_true rfl, Nat.le_of_ble_eq_true rfl⟩ dX8_init_225 (x_mkE e1 ?_)
  obtain ⟨k, h⟩ := chk_s h
  have k2 := k
  obtain ⟨k, h⟩ := chk_s h
  obtain ⟨σ82, e1, h⟩ := wlet_s h
  refine x_putQ (pc := 227) C qX8_94 hn (Or.inr ⟨_, rfl⟩) k2 k dX8_init_227 (x_eq e1 ?_)
  refine x_aload_n (pc := 230) C dX8_init_230 rfl rfl ?_
  refine x_bipush (v := 6) (pc := 231) C dX8_init_231 (by decide) ?_
  obtain ⟨k, h⟩ := chk_s h
  have k2 := k
  obtain ⟨a84, σ83, e1, h⟩ := bnd_s h
  refine x_newI (N := 6) (pc := 233) C aaI (by decide) (by decide) k2 (by decide) ⟨Nat.le_of_ble_eq_true rfl, Nat.le_of_ble_eq_true rfl⟩ dX8_init_233 (x_mkE e1 ?_)
  obtain ⟨k, h⟩ := chk_s h
  have k2 := k
  obtain ⟨k, h⟩ := chk_s h
  obtain ⟨σ85, e1, h⟩ := wlet_s h
  refine x_putQ (pc := 235) C qX8_97 hn (Or.inr ⟨_, rfl⟩) k2 k dX8_init_235 (x_eq e1 ?_)
  refine x_aload_n (pc := 238) C dX8_init_238 rfl rfl ?_
  refine x_bipush (v := 6) (pc := 239) C dX8_init_239 (by decide) ?_
  obtain ⟨k, h⟩ := chk_s h
  have k2 := k
  obtain ⟨a87, σ86, e1, h⟩ := bnd_s h
  refine x_newI (N := 6) (pc := 241) C aaI (by decide) (by decide) k2 (by decide) ⟨Nat.le_of_ble_eq_true rfl, Nat.le_of_ble_eq_true rfl⟩ dX8_init_241 (x_mkE e1 ?_)
  obtain ⟨k, h⟩ := chk_s h
  have k2 := k
  obtain ⟨k, h⟩ := chk_s h
  obtain ⟨σ88, e1, h⟩ := wlet_s h
  refine x_putQ (pc := 243) C qX8_100 hn (Or.inr ⟨_, rfl⟩) k2 k dX8_init_243 (x_eq e1 ?_)
  refine x_aload_n (pc := 246) C dX8_init_246 rfl rfl ?_
  refine x_bipush (v := 6) (pc := 247) C dX8_init_247 (by decide) ?_
  obtain ⟨k, h⟩ := chk_s h
  have k2 := k
  obtain ⟨a90, σ89, e1, h⟩ := bnd_s h
  refine x_newI (N := 6) (pc := 249) C aaI (by decide) (by decide) k2 (by decide) ⟨Nat.le_of_ble_eq_true rfl, Nat.le_of_ble_eq_true rfl⟩ dX8_init_249 (x_mkE e1 ?_)
  obtain ⟨k, h⟩ := chk_s h
  have k2 := k
  obtain ⟨k, h⟩ := chk_s h
  obtain ⟨σ91, e1, h⟩ := wlet_s h
  refine x_putQ (pc := 251) C qX8_103 hn (Or.inr ⟨_, rfl⟩) k2 k dX8_init_251 (x_eq e1 ?_)
  refine x_aload_n (pc := 254) C dX8_init_254 rfl rfl ?_
  refine x_bipush (v := 10) (pc := 255) C dX8_init_255 (by decide) ?_
  obtain ⟨k, h⟩ := chk_s h
  obtain ⟨σ92, e1, h⟩ := wlet_s h
  refine x_putI (pc := 257) C pX8_106 rfl k dX8_init_257 (x_eq e1 ?_)
  refine x_aload_n (pc := 260) C dX8_init_260 rfl rfl ?_
  obtain ⟨k, h⟩ := chk_s h
  have k2 := k
  obtain ⟨u0, σ93, k, h⟩ := bnd_s h
  refine x_callV0 (pc := 261) C (mX8_laysMiles E l k) cl6 k2 cX8_109 nX8_laysMiles sX8_laysMiles rfl rfl (Nat.le_of_ble_eq_true rfl) ⟨Nat.le_of_ble_eq_true rfl, Nat.le_of_ble_eq_true rfl, Nat.le_of_ble_eq_true rfl, Nat.le_of_ble_eq_true rfl⟩ dX8_init_261 ?_
  cases h
  exact x_vret C hr dX8_init_264
def DX8_thrown (l0 : Nat) (σ : Sg) : Option (Int32 × Sg) :=
  chk (ckO σ 6 l0) <|
  some ((gI σ l0 0), σ)
theorem mX8_thrown (E : Ev) (l : Launch) {l0 : Nat} {σ : Sg} {r : Int32} {σ' : Sg} (h : DX8_thrown l0 σ = some (r, σ')) : Mt E l yX8_thrown cX8_thrown 1 (some .int) 1 0 0 [.ref (ad E l0)] σ (some (.int r)) σ' := by
  refine Mt.ofX (by decide) (Nat.le_of_ble_eq_true rfl) (L0 := [some (.ref (ad E l0))]) (xEntN_ok [.ref (ad E l0)] 1) (fun p e s m args below meth c C hr hn => ?_)
  unfold DX8_thrown at h
  refine x_aload_n (pc := 0) C dX8_thrown_0 rfl rfl ?_
  obtain ⟨k, h⟩ := chk_s h
  refine x_getI (pc := 1) C fX8_112 rfl k dX8_thrown_1 ?_
  cases h
  exact x_iret C hr dX8_thrown_4
def DX8_feed_73 (K20 : Nat → Int32 → Int32 → Int32 → Int32 → Int32 → Int32 → Sg → Option (Int32 × Sg)) (l0 : Nat) (l1 : Int32) (l2 : Int32) (l3 : Int32) (l4 : Int32) (l5 : Int32) (l6 : Int32) (s0 : Int32) (σ : Sg) : Option (Int32 × Sg) :=
  chk (ckO σ 6 l0) <|
  chk (ckV (gR σ l0 1)) <|
  chk (ckO σ 6 l0) <|
  chk (ckN (4 : Int32)) <|
  chk (ckI σ (gR σ l0 1) ((gI σ l0 2) + l6)) <|
  wlet (wI σ (gR σ l0 1) ((gI σ l0 2) + l6).toNatClampNeg ((s0 >>> (((24 : Int32) - ((8 : Int32) * (l6 - l6 / (4 : Int32) * (4 : Int32)))) &&& 31)) &&& (255 : Int32))) fun σ1 =>
  K20 l0 l1 l2 l3 l4 l5 (l6 + (1 : Int32)) σ1
theorem tX8_feed_73 {r : Int32} {σ' : Sg} (C : Cx E p s m args meth c RX8 cX8_feed 8) (hr : meth.sig.returnType = (some .int)) {K20 : Nat → Int32 → Int32 → Int32 → Int32 → Int32 → Int32 → Sg → Option (Int32 × Sg)} (hK20 : ∀ (l0 : Nat) (l1 : Int32) (l2 : Int32) (l3 : Int32) (l4 : Int32) (l5 : Int32) (l6 : Int32) (σ : Sg), K20 l0 l1 l2 l3 l4 l5 l6 σ = some (r, σ') → Y E p l e (rmA 1 0 0) s m args below meth c (some (.int r)) σ' 0 0 8 0 0 σ 20 [some (.ref (ad E l0)), some (.int l1), some (.int l2), some (.int l3), some (.int l4), some (.int l5), some (.int l6), none] []) {l0 : Nat} {l1 : Int32} {l2 : Int32} {l3 : Int32} {l4 : Int32} {l5 : Int32} {l6 : Int32} {s0 : Int32} {σ : Sg} (h : DX8_feed_73 K20 l0 l1 l2 l3 l4 l5 l6 s0 σ = some (r, σ')) : Y E p l e (rmA 1 0 0) s m args below meth c (some (.int r)) σ' 0 0 8 0 0 σ 73 [some (.ref (ad E l0)), some (.int l1), some (.int l2), some (.int l3), some (.int l4), some (.int l5), some (.int l6), none] [.int s0] := by
  unfold DX8_feed_73 at h
  refine x_istore (M := [some _, some _, some _, some _, some _, some _, some _, some _]) (pc := 73) C dX8_feed_73 (by decide) rfl ?_
  refine x_aload_n (pc := 75) C dX8_feed_75 rfl rfl ?_
  obtain ⟨k, h⟩ := chk_s h
  have k2 := k
  obtain ⟨k, h⟩ := chk_s h
  refine x_getR (pc := 76) C fX8_7 rfl k2 k dX8_feed_76 ?_
  refine x_aload_n (pc := 79) C dX8_feed_79 rfl rfl ?_
  obtain ⟨k, h⟩ := chk_s h
  refine x_getI (pc := 80) C fX8_115 rfl k dX8_feed_80 ?_
  refine x_iload (pc := 83) C dX8_feed_83 rfl ?_
  refine x_iadd (pc := 85) C dX8_feed_85 ?_
  refine x_iload (pc := 86) C dX8_feed_86 rfl ?_
  refine x_bipush (v := 24) (pc := 88) C dX8_feed_88 (by decide) ?_
  refine x_bipush (v := 8) (pc := 90) C dX8_feed_90 (by decide) ?_
  refine x_iload (pc := 92) C dX8_feed_92 rfl ?_
  refine x_iconst (v := 4) (pc := 94) C dX8_feed_94 (by decide) ?_
  obtain ⟨k, h⟩ := chk_s h
  refine x_irem (pc := 95) C dX8_feed_95 (ckN_s k) ?_
  refine x_imul (pc := 96) C dX8_feed_96 ?_
  refine x_isub (pc := 97) C dX8_feed_97 ?_
  refine x_ishr (pc := 98) C dX8_feed_98 ?_
  refine x_sipush (v := 255) (pc := 99) C dX8_feed_99 (by decide) ?_
  refine x_iand (pc := 102) C dX8_feed_102 ?_
  obtain ⟨k, h⟩ := chk_s h
  obtain ⟨σ1, e1, h⟩ := wlet_s h
  refine x_iast (pc := 103) C k dX8_feed_103 (x_eq e1 ?_)
  refine x_iinc (v := 1) (M := [some _, some _, some _, some _, some _, some _, some _, some _]) (pc := 104) C dX8_feed_104 rfl (by decide) (by decide) rfl ?_
  refine x_goto (tgt := 20) (pc := 107) C dX8_feed_107 (by decide) ?_
  exact x_sub (hK20 _ _ _ _ _ _ _ _ h) (xLe_s (xLe_s (xLe_s (xLe_s (xLe_s (xLe_s (xLe_s (xLe_n xLe_0))))))))
def DX8_feed_110 (l0 : Nat) (σ : Sg) : Option (Int32 × Sg) :=
  chk (ckO σ 6 l0) <|
  chk (ckO σ 6 l0) <|
  wlet (pI σ l0 2 ((gI σ l0 2) + (20 : Int32))) fun σ1 =>
  chk (ckO σ1 6 l0) <|
  some ((gI σ1 l0 2), σ1)
theorem tX8_feed_110 {r : Int32} {σ' : Sg} (C : Cx E p s m args meth c RX8 cX8_feed 8) (hr : meth.sig.returnType = (some .int)) {l0 : Nat} {σ : Sg} (h : DX8_feed_110 l0 σ = some (r, σ')) : Y E p l e (rmA 1 0 0) s m args below meth c (some (.int r)) σ' 0 0 8 0 0 σ 110 [some (.ref (ad E l0)), none, none, none, none, none, none, none] [] := by
  unfold DX8_feed_110 at h
  refine x_aload_n (pc := 110) C dX8_feed_110 rfl rfl ?_
  refine x_dup (pc := 111) C dX8_feed_111 rfl ?_
  obtain ⟨k, h⟩ := chk_s h
  refine x_getI (pc := 112) C fX8_115 rfl k dX8_feed_112 ?_
  refine x_bipush (v := 20) (pc := 115) C dX8_feed_115 (by decide) ?_
  refine x_iadd (pc := 117) C dX8_feed_117 ?_
  obtain ⟨k, h⟩ := chk_s h
  obtain ⟨σ1, e1, h⟩ := wlet_s h
  refine x_putI (pc := 118) C pX8_115 rfl k dX8_feed_118 (x_eq e1 ?_)
  refine x_aload_n (pc := 121) C dX8_feed_121 rfl rfl ?_
  obtain ⟨k, h⟩ := chk_s h
  refine x_getI (pc := 122) C fX8_115 rfl k dX8_feed_122 ?_
  cases h
  exact x_iret C hr dX8_feed_125
def DX8_feed_20 : Nat → Nat → Int32 → Int32 → Int32 → Int32 → Int32 → Int32 → Sg → Option (Int32 × Sg)
  | 0, _, _, _, _, _, _, _, _ => none
  | n + 1, l0, l1, l2, l3, l4, l5, l6, σ =>
    if (20 : Int32) ≤ l6 then
      DX8_feed_110 l0 σ
    else
      if (4 : Int32) ≤ l6 then
        if (8 : Int32) ≤ l6 then
          if (12 : Int32) ≤ l6 then
            if (16 : Int32) ≤ l6 then
              DX8_feed_73 (DX8_feed_20 n) l0 l1 l2 l3 l4 l5 l6 l5 σ
            else
              DX8_feed_73 (DX8_feed_20 n) l0 l1 l2 l3 l4 l5 l6 l4 σ
          else
            DX8_feed_73 (DX8_feed_20 n) l0 l1 l2 l3 l4 l5 l6 l3 σ
        else
          DX8_feed_73 (DX8_feed_20 n) l0 l1 l2 l3 l4 l5 l6 l2 σ
      else
        DX8_feed_73 (DX8_feed_20 n) l0 l1 l2 l3 l4 l5 l6 l1 σ
theorem tX8_feed_20 {r : Int32} {σ' : Sg} (C : Cx E p s m args meth c RX8 cX8_feed 8) (hr : meth.sig.returnType = (some .int)) : ∀ (n : Nat) (l0 : Nat) (l1 : Int32) (l2 : Int32) (l3 : Int32) (l4 : Int32) (l5 : Int32) (l6 : Int32) (σ : Sg) (h : DX8_feed_20 n l0 l1 l2 l3 l4 l5 l6 σ = some (r, σ')), Y E p l e (rmA 1 0 0) s m args below meth c (some (.int r)) σ' 0 0 8 0 0 σ 20 [some (.ref (ad E l0)), some (.int l1), some (.int l2), some (.int l3), some (.int l4), some (.int l5), some (.int l6), none] [] := by
  intro n
  induction n with
  | zero => intro l0 l1 l2 l3 l4 l5 l6 σ h; cases h
  | succ n ih =>
    intro l0 l1 l2 l3 l4 l5 l6 σ h
    unfold DX8_feed_20 at h
    refine x_iload (pc := 20) C dX8_feed_20 rfl ?_
    refine x_bipush (v := 20) (pc := 22) C dX8_feed_22 (by decide) ?_
    refine x_icmp_ge (pc := 24) (tgt := 110) C dX8_feed_24 (by decide) (fun q => ?_) (fun q => ?_)
    · rw [if_pos q] at h
      exact x_sub (tX8_feed_110 C hr h) (xLe_s (xLe_n (xLe_n (xLe_n (xLe_n (xLe_n (xLe_n (xLe_n xLe_0))))))))
    · rw [if_neg q] at h
      refine x_iload (pc := 27) C dX8_feed_27 rfl ?_
      refine x_iconst (v := 4) (pc := 29) C dX8_feed_29 (by decide) ?_
      refine x_icmp_ge (pc := 30) (tgt := 37) C dX8_feed_30 (by decide) (fun q => ?_) (fun q => ?_)
      · rw [if_pos q] at h
        refine x_iload (pc := 37) C dX8_feed_37 rfl ?_
        refine x_bipush (v := 8) (pc := 39) C dX8_feed_39 (by decide) ?_
        refine x_icmp_ge (pc := 41) (tgt := 48) C dX8_feed_41 (by decide) (fun q => ?_) (fun q => ?_)
        · rw [if_pos q] at h
          refine x_iload (pc := 48) C dX8_feed_48 rfl ?_
          refine x_bipush (v := 12) (pc := 50) C dX8_feed_50 (by decide) ?_
          refine x_icmp_ge (pc := 52) (tgt := 59) C dX8_feed_52 (by decide) (fun q => ?_) (fun q => ?_)
          · rw [if_pos q] at h
            refine x_iload (pc := 59) C dX8_feed_59 rfl ?_
            refine x_bipush (v := 16) (pc := 61) C dX8_feed_61 (by decide) ?_
            refine x_icmp_ge (pc := 63) (tgt := 71) C dX8_feed_63 (by decide) (fun q => ?_) (fun q => ?_)
            · rw [if_pos q] at h
              refine x_iload (pc := 71) C dX8_feed_71 rfl ?_
              exact x_sub (tX8_feed_73 C hr ih h) (xLe_s (xLe_s (xLe_s (xLe_s (xLe_s (xLe_s (xLe_s (xLe_n xLe_0))))))))
            · rw [if_neg q] at h
              refine x_iload (pc := 66) C dX8_feed_66 rfl ?_
              refine x_goto (tgt := 73) (pc := 68) C dX8_feed_68 (by decide) ?_
              exact x_sub (tX8_feed_73 C hr ih h) (xLe_s (xLe_s (xLe_s (xLe_s (xLe_s (xLe_s (xLe_s (xLe_n xLe_0))))))))
          · rw [if_neg q] at h
            refine x_iload_n (pc := 55) C dX8_feed_55 rfl rfl ?_
            refine x_goto (tgt := 73) (pc := 56) C dX8_feed_56 (by decide) ?_
            exact x_sub (tX8_feed_73 C hr ih h) (xLe_s (xLe_s (xLe_s (xLe_s (xLe_s (xLe_s (xLe_s (xLe_n xLe_0))))))))
        · rw [if_neg q] at h
          refine x_iload_n (pc := 44) C dX8_feed_44 rfl rfl ?_
          refine x_goto (tgt := 73) (pc := 45) C dX8_feed_45 (by decide) ?_
          exact x_sub (tX8_feed_73 C hr ih h) (xLe_s (xLe_s (xLe_s (xLe_s (xLe_s (xLe_s (xLe_s (xLe_n xLe_0))))))))
      · rw [if_neg q] at h
        refine x_iload_n (pc := 33) C dX8_feed_33 rfl rfl ?_
        refine x_goto (tgt := 73) (pc := 34) C dX8_feed_34 (by decide) ?_
        exact x_sub (tX8_feed_73 C hr ih h) (xLe_s (xLe_s (xLe_s (xLe_s (xLe_s (xLe_s (xLe_s (xLe_n xLe_0))))))))
def DX8_feed (l0 : Nat) (l1 : Int32) (l2 : Int32) (l3 : Int32) (l4 : Int32) (l5 : Int32) (σ : Sg) : Option (Int32 × Sg) :=
  chk (ckO σ 6 l0) <|
  wlet (pI σ l0 0 (0 : Int32)) fun σ1 =>
  chk (ckO σ1 6 l0) <|
  if (gI σ1 l0 2) ≤ (1180 : Int32) then
    DX8_feed_20 FU l0 l1 l2 l3 l4 l5 (0 : Int32) σ1
  else
    some ((-1 : Int32), σ1)
theorem mX8_feed (E : Ev) (l : Launch) {l0 : Nat} {l1 : Int32} {l2 : Int32} {l3 : Int32} {l4 : Int32} {l5 : Int32} {σ : Sg} {r : Int32} {σ' : Sg} (h : DX8_feed l0 l1 l2 l3 l4 l5 σ = some (r, σ')) : Mt E l yX8_feed cX8_feed 8 (some .int) 1 0 0 [.ref (ad E l0), .int l1, .int l2, .int l3, .int l4, .int l5] σ (some (.int r)) σ' := by
  refine Mt.ofX (by decide) (Nat.le_of_ble_eq_true rfl) (L0 := [some (.ref (ad E l0)), some (.int l1), some (.int l2), some (.int l3), some (.int l4), some (.int l5), none, none]) (xEntN_ok [.ref (ad E l0), .int l1, .int l2, .int l3, .int l4, .int l5] 8) (fun p e s m args below meth c C hr hn => ?_)
  unfold DX8_feed at h
  refine x_aload_n (pc := 0) C dX8_feed_0 rfl rfl ?_
  refine x_iconst (v := 0) (pc := 1) C dX8_feed_1 (by decide) ?_
  obtain ⟨k, h⟩ := chk_s h
  obtain ⟨σ1, e1, h⟩ := wlet_s h
  refine x_putI (pc := 2) C pX8_112 rfl k dX8_feed_2 (x_eq e1 ?_)
  refine x_aload_n (pc := 5) C dX8_feed_5 rfl rfl ?_
  obtain ⟨k, h⟩ := chk_s h
  refine x_getI (pc := 6) C fX8_115 rfl k dX8_feed_6 ?_
  refine x_sipush (v := 1180) (pc := 9) C dX8_feed_9 (by decide) ?_
  refine x_icmp_le (pc := 12) (tgt := 17) C dX8_feed_12 (by decide) (fun q => ?_) (fun q => ?_)
  · rw [if_pos q] at h
    refine x_iconst (v := 0) (pc := 17) C dX8_feed_17 (by decide) ?_
    refine x_istore (M := [some _, some _, some _, some _, some _, some _, some _, none]) (pc := 18) C dX8_feed_18 (by decide) rfl ?_
    exact x_sub (tX8_feed_20 C hr FU _ _ _ _ _ _ _ _ h) (xLe_s (xLe_s (xLe_s (xLe_s (xLe_s (xLe_s (xLe_s (xLe_n xLe_0))))))))
  · rw [if_neg q] at h
    refine x_iconst (v := -1) (pc := 15) C dX8_feed_15 (by decide) ?_
    cases h
    exact x_iret C hr dX8_feed_16
def DX8_here_24 (s0 : Int32) (σ : Sg) : Option (Int32 × Sg) :=
  some (s0, σ)
theorem tX8_here_24 {r : Int32} {σ' : Sg} (C : Cx E p s m args meth c RX8 cX8_here 1) (hr : meth.sig.returnType = (some .int)) {s0 : Int32} {σ : Sg} (h : DX8_here_24 s0 σ = some (r, σ')) : Y E p l e (rmA 1 0 0) s m args below meth c (some (.int r)) σ' 0 0 1 0 0 σ 24 [none] [.int s0] := by
  unfold DX8_here_24 at h
  cases h
  exact x_iret C hr dX8_here_24
def DX8_here (l0 : Nat) (σ : Sg) : Option (Int32 × Sg) :=
  chk (ckO σ 6 l0) <|
  chk (ckO σ 6 l0) <|
  if (gI σ l0 23) ≤ (gI σ l0 24) then
    DX8_here_24 (-1 : Int32) σ
  else
    chk (ckO σ 6 l0) <|
    chk (ckV (gR σ l0 1)) <|
    chk (ckO σ 6 l0) <|
    chk (ckI σ (gR σ l0 1) (gI σ l0 24)) <|
    DX8_here_24 (aI σ (gR σ l0 1) (gI σ l0 24).toNatClampNeg) σ
theorem mX8_here (E : Ev) (l : Launch) {l0 : Nat} {σ : Sg} {r : Int32} {σ' : Sg} (h : DX8_here l0 σ = some (r, σ')) : Mt E l yX8_here cX8_here 1 (some .int) 1 0 0 [.ref (ad E l0)] σ (some (.int r)) σ' := by
  refine Mt.ofX (by decide) (Nat.le_of_ble_eq_true rfl) (L0 := [some (.ref (ad E l0))]) (xEntN_ok [.ref (ad E l0)] 1) (fun p e s m args below meth c C hr hn => ?_)
  unfold DX8_here at h
  refine x_aload_n (pc := 0) C dX8_here_0 rfl rfl ?_
  obtain ⟨k, h⟩ := chk_s h
  refine x_getI (pc := 1) C fX8_118 rfl k dX8_here_1 ?_
  refine x_aload_n (pc := 4) C dX8_here_4 rfl rfl ?_
  obtain ⟨k, h⟩ := chk_s h
  refine x_getI (pc := 5) C fX8_121 rfl k dX8_here_5 ?_
  refine x_icmp_ge (pc := 8) (tgt := 23) C dX8_here_8 (by decide) (fun q => ?_) (fun q => ?_)
  · rw [if_pos q] at h
    refine x_iconst (v := -1) (pc := 23) C dX8_here_23 (by decide) ?_
    exact x_sub (tX8_here_24 C hr h) (xLe_n xLe_0)
  · rw [if_neg q] at h
    refine x_aload_n (pc := 11) C dX8_here_11 rfl rfl ?_
    obtain ⟨k, h⟩ := chk_s h
    have k2 := k
    obtain ⟨k, h⟩ := chk_s h
    refine x_getR (pc := 12) C fX8_7 rfl k2 k dX8_here_12 ?_
    refine x_aload_n (pc := 15) C dX8_here_15 rfl rfl ?_
    obtain ⟨k, h⟩ := chk_s h
    refine x_getI (pc := 16) C fX8_118 rfl k dX8_here_16 ?_
    obtain ⟨k, h⟩ := chk_s h
    refine x_iald (pc := 19) C k dX8_here_19 ?_
    refine x_goto (tgt := 24) (pc := 20) C dX8_here_20 (by decide) ?_
    exact x_sub (tX8_here_24 C hr h) (xLe_n xLe_0)
def DX8_isSmall_17 (s0 : Int32) (σ : Sg) : Option (Int32 × Sg) :=
  chk (ck01 s0) <|
  some (s0, σ)
theorem tX8_isSmall_17 {r : Int32} {σ' : Sg} (C : Cx E p s m args meth c RX8 cX8_isSmall 1) (hr : meth.sig.returnType = (some .boolean)) {s0 : Int32} {σ : Sg} (h : DX8_isSmall_17 s0 σ = some (r, σ')) : Y E p l e (rmA 1 0 0) s m args below meth c (some (.int r)) σ' 0 0 1 0 0 σ 17 [none] [.int s0] := by
  unfold DX8_isSmall_17 at h
  obtain ⟨kz, h⟩ := chk_s h
  cases h
  exact x_zret C hr (nar_01 kz) dX8_isSmall_17
def DX8_isSmall_16 (σ : Sg) : Option (Int32 × Sg) :=
  DX8_isSmall_17 (0 : Int32) σ
theorem tX8_isSmall_16 {r : Int32} {σ' : Sg} (C : Cx E p s m args meth c RX8 cX8_isSmall 1) (hr : meth.sig.returnType = (some .boolean)) {σ : Sg} (h : DX8_isSmall_16  σ = some (r, σ')) : Y E p l e (rmA 1 0 0) s m args below meth c (some (.int r)) σ' 0 0 1 0 0 σ 16 [none] [] := by
  unfold DX8_isSmall_16 at h
  refine x_iconst (v := 0) (pc := 16) C dX8_isSmall_16 (by decide) ?_
  exact x_sub (tX8_isSmall_17 C hr h) (xLe_n xLe_0)
def DX8_isSmall (l0 : Int32) (σ : Sg) : Option (Int32 × Sg) :=
  if l0 < (97 : Int32) then
    DX8_isSmall_16 σ
  else
    if (122 : Int32) < l0 then
      DX8_isSmall_16 σ
    else
      DX8_isSmall_17 (1 : Int32) σ
theorem mX8_isSmall (E : Ev) (l : Launch) {l0 : Int32} {σ : Sg} {r : Int32} {σ' : Sg} (h : DX8_isSmall l0 σ = some (r, σ')) : Mt E l yX8_isSmall cX8_isSmall 1 (some .boolean) 1 0 0 [.int l0] σ (some (.int r)) σ' := by
  refine Mt.ofX (by decide) (Nat.le_of_ble_eq_true rfl) (L0 := [some (.int l0)]) (xEntN_ok [.int l0] 1) (fun p e s m args below meth c C hr hn => ?_)
  unfold DX8_isSmall at h
  refine x_iload_n (pc := 0) C dX8_isSmall_0 rfl rfl ?_
  refine x_bipush (v := 97) (pc := 1) C dX8_isSmall_1 (by decide) ?_
  refine x_icmp_lt (pc := 3) (tgt := 16) C dX8_isSmall_3 (by decide) (fun q => ?_) (fun q => ?_)
  · rw [if_pos q] at h
    exact x_sub (tX8_isSmall_16 C hr h) (xLe_n xLe_0)
  · rw [if_neg q] at h
    refine x_iload_n (pc := 6) C dX8_isSmall_6 rfl rfl ?_
    refine x_bipush (v := 122) (pc := 7) C dX8_isSmall_7 (by decide) ?_
    refine x_icmp_gt (pc := 9) (tgt := 16) C dX8_isSmall_9 (by decide) (fun q => ?_) (fun q => ?_)
    · rw [if_pos q] at h
      exact x_sub (tX8_isSmall_16 C hr h) (xLe_n xLe_0)
    · rw [if_neg q] at h
      refine x_iconst (v := 1) (pc := 12) C dX8_isSmall_12 (by decide) ?_
      refine x_goto (tgt := 17) (pc := 13) C dX8_isSmall_13 (by decide) ?_
      exact x_sub (tX8_isSmall_17 C hr h) (xLe_n xLe_0)
def DX8_isDigit_17 (s0 : Int32) (σ : Sg) : Option (Int32 × Sg) :=
  chk (ck01 s0) <|
  some (s0, σ)
theorem tX8_isDigit_17 {r : Int32} {σ' : Sg} (C : Cx E p s m args meth c RX8 cX8_isDigit 1) (hr : meth.sig.returnType = (some .boolean)) {s0 : Int32} {σ : Sg} (h : DX8_isDigit_17 s0 σ = some (r, σ')) : Y E p l e (rmA 1 0 0) s m args below meth c (some (.int r)) σ' 0 0 1 0 0 σ 17 [none] [.int s0] := by
  unfold DX8_isDigit_17 at h
  obtain ⟨kz, h⟩ := chk_s h
  cases h
  exact x_zret C hr (nar_01 kz) dX8_isDigit_17
def DX8_isDigit_16 (σ : Sg) : Option (Int32 × Sg) :=
  DX8_isDigit_17 (0 : Int32) σ
theorem tX8_isDigit_16 {r : Int32} {σ' : Sg} (C : Cx E p s m args meth c RX8 cX8_isDigit 1) (hr : meth.sig.returnType = (some .boolean)) {σ : Sg} (h : DX8_isDigit_16  σ = some (r, σ')) : Y E p l e (rmA 1 0 0) s m args below meth c (some (.int r)) σ' 0 0 1 0 0 σ 16 [none] [] := by
  unfold DX8_isDigit_16 at h
  refine x_iconst (v := 0) (pc := 16) C dX8_isDigit_16 (by decide) ?_
  exact x_sub (tX8_isDigit_17 C hr h) (xLe_n xLe_0)
def DX8_isDigit (l0 : Int32) (σ : Sg) : Option (Int32 × Sg) :=
  if l0 < (48 : Int32) then
    DX8_isDigit_16 σ
  else
    if (57 : Int32) < l0 then
      DX8_isDigit_16 σ
    else
      DX8_isDigit_17 (1 : Int32) σ
theorem mX8_isDigit (E : Ev) (l : Launch) {l0 : Int32} {σ : Sg} {r : Int32} {σ' : Sg} (h : DX8_isDigit l0 σ = some (r, σ')) : Mt E l yX8_isDigit cX8_isDigit 1 (some .boolean) 1 0 0 [.int l0] σ (some (.int r)) σ' := by
  refine Mt.ofX (by decide) (Nat.le_of_ble_eq_true rfl) (L0 := [some (.int l0)]) (xEntN_ok [.int l0] 1) (fun p e s m args below meth c C hr hn => ?_)
  unfold DX8_isDigit at h
  refine x_iload_n (pc := 0) C dX8_isDigit_0 rfl rfl ?_
  refine x_bipush (v := 48) (pc := 1) C dX8_isDigit_1 (by decide) ?_
  refine x_icmp_lt (pc := 3) (tgt := 16) C dX8_isDigit_3 (by decide) (fun q => ?_) (fun q => ?_)
  · rw [if_pos q] at h
    exact x_sub (tX8_isDigit_16 C hr h) (xLe_n xLe_0)
  · rw [if_neg q] at h
    refine x_iload_n (pc := 6) C dX8_isDigit_6 rfl rfl ?_
    refine x_bipush (v := 57) (pc := 7) C dX8_isDigit_7 (by decide) ?_
    refine x_icmp_gt (pc := 9) (tgt := 16) C dX8_isDigit_9 (by decide) (fun q => ?_) (fun q => ?_)
    · rw [if_pos q] at h
      exact x_sub (tX8_isDigit_16 C hr h) (xLe_n xLe_0)
    · rw [if_neg q] at h
      refine x_iconst (v := 1) (pc := 12) C dX8_isDigit_12 (by decide) ?_
      refine x_goto (tgt := 17) (pc := 13) C dX8_isDigit_13 (by decide) ?_
      exact x_sub (tX8_isDigit_17 C hr h) (xLe_n xLe_0)
def DX8_wordHere_95 (l1 : Int32) (σ : Sg) : Option (Int32 × Sg) :=
  some (l1, σ)
theorem tX8_wordHere_95 {r : Int32} {σ' : Sg} (C : Cx E p s m args meth c RX8 cX8_wordHere 4) (hr : meth.sig.returnType = (some .int)) {l1 : Int32} {σ : Sg} (h : DX8_wordHere_95 l1 σ = some (r, σ')) : Y E p l e (rmA 6 0 0) s m args below meth c (some (.int r)) σ' 0 0 4 0 0 σ 95 [none, some (.int l1), none, none] [] := by
  unfold DX8_wordHere_95 at h
  refine x_iload_n (pc := 95) C dX8_wordHere_95 rfl rfl ?_
  cases h
  exact x_iret C hr dX8_wordHere_96
def DX8_wordHere_114 (K4 : Nat → Int32 → Int32 → Sg → Option (Int32 × Sg)) (l0 : Nat) (l1 : Int32) (l2 : Int32) (σ : Sg) : Option (Int32 × Sg) :=
  K4 l0 (l1 + (1 : Int32)) (l2 + (1 : Int32)) σ
theorem tX8_wordHere_114 {r : Int32} {σ' : Sg} (C : Cx E p s m args meth c RX8 cX8_wordHere 4) (hr : meth.sig.returnType = (some .int)) {K4 : Nat → Int32 → Int32 → Sg → Option (Int32 × Sg)} (hK4 : ∀ (l0 : Nat) (l1 : Int32) (l2 : Int32) (σ : Sg), K4 l0 l1 l2 σ = some (r, σ') → Y E p l e (rmA 6 0 0) s m args below meth c (some (.int r)) σ' 0 0 4 0 0 σ 4 [some (.ref (ad E l0)), some (.int l1), some (.int l2), none] []) {l0 : Nat} {l1 : Int32} {l2 : Int32} {σ : Sg} (h : DX8_wordHere_114 K4 l0 l1 l2 σ = some (r, σ')) : Y E p l e (rmA 6 0 0) s m args below meth c (some (.int r)) σ' 0 0 4 0 0 σ 114 [some (.ref (ad E l0)), some (.int l1), some (.int l2), none] [] := by
  unfold DX8_wordHere_114 at h
  refine x_iinc (v := 1) (M := [some _, some _, some _, none]) (pc := 114) C dX8_wordHere_114 rfl (by decide) (by decide) rfl ?_
  refine x_iinc (v := 1) (M := [some _, some _, some _, none]) (pc := 117) C dX8_wordHere_117 rfl (by decide) (by decide) rfl ?_
  refine x_goto (tgt := 4) (pc := 120) C dX8_wordHere_120 (by decide) ?_
  exact x_sub (hK4 _ _ _ _ h) (xLe_s (xLe_s (xLe_s (xLe_n xLe_0))))
def DX8_wordHere_97 (K4 : Nat → Int32 → Int32 → Sg → Option (Int32 × Sg)) : Nat → Nat → Int32 → Int32 → Sg → Option (Int32 × Sg)
  | 0, _, _, _, _ => none
  | n + 1, l0, l1, l2, σ =>
    chk (inb l2 85) <|
    if (wrd.getD l2.toNatClampNeg 0) = (32 : Int32) then
      DX8_wordHere_114 K4 l0 l1 l2 σ
    else
      DX8_wordHere_97 K4 n l0 l1 (l2 + (1 : Int32)) σ
theorem tX8_wordHere_97 {r : Int32} {σ' : Sg} (C : Cx E p s m args meth c RX8 cX8_wordHere 4) (hr : meth.sig.returnType = (some .int)) {K4 : Nat → Int32 → Int32 → Sg → Option (Int32 × Sg)} (hK4 : ∀ (l0 : Nat) (l1 : Int32) (l2 : Int32) (σ : Sg), K4 l0 l1 l2 σ = some (r, σ') → Y E p l e (rmA 6 0 0) s m args below meth c (some (.int r)) σ' 0 0 4 0 0 σ 4 [some (.ref (ad E l0)), some (.int l1), some (.int l2), none] []) : ∀ (n : Nat) (l0 : Nat) (l1 : Int32) (l2 : Int32) (σ : Sg) (h : DX8_wordHere_97 K4 n l0 l1 l2 σ = some (r, σ')), Y E p l e (rmA 6 0 0) s m args below meth c (some (.int r)) σ' 0 0 4 0 0 σ 97 [some (.ref (ad E l0)), some (.int l1), some (.int l2), none] [] := by
  intro n
  induction n with
  | zero => intro l0 l1 l2 σ h; cases h
  | succ n ih =>
    intro l0 l1 l2 σ h
    unfold DX8_wordHere_97 at h
    refine x_ldcWords (pc := 97) C dX8_wordHere_97 ?_
    refine x_iload_n (pc := 99) C dX8_wordHere_99 rfl rfl ?_
    obtain ⟨k, h⟩ := chk_s h
    refine x_scharW (pc := 100) C k ⟨Nat.le_of_ble_eq_true rfl, Nat.le_of_ble_eq_true rfl, Nat.le_of_ble_eq_true rfl, Nat.le_of_ble_eq_true rfl⟩ (Nat.le_of_ble_eq_true rfl) dX8_wordHere_100 ?_
    refine x_bipush (v := 32) (pc := 103) C dX8_wordHere_103 (by decide) ?_
    refine x_icmp_eq (pc := 105) (tgt := 114) C dX8_wordHere_105 (by decide) (fun q => ?_) (fun q => ?_)
    · rw [if_pos q] at h
      exact x_sub (tX8_wordHere_114 C hr hK4 h) (xLe_s (xLe_s (xLe_s (xLe_n xLe_0))))
    · rw [if_neg q] at h
      refine x_iinc (v := 1) (M := [some _, some _, some _, none]) (pc := 108) C dX8_wordHere_108 rfl (by decide) (by decide) rfl ?_
      refine x_goto (tgt := 97) (pc := 111) C dX8_wordHere_111 (by decide) ?_
      exact x_sub (ih _ _ _ _ h) (xLe_s (xLe_s (xLe_s (xLe_n xLe_0))))
def DX8_wordHere_69 (K4 : Nat → Int32 → Int32 → Sg → Option (Int32 × Sg)) (l0 : Nat) (l1 : Int32) (l2 : Int32) (l3 : Int32) (σ : Sg) : Option (Int32 × Sg) :=
  chk (inb (l2 + l3) 85) <|
  if (wrd.getD (l2 + l3).toNatClampNeg 0) = (32 : Int32) then
    chk (ckO σ 6 l0) <|
    chk (ckO σ 6 l0) <|
    if ((gI σ l0 25) + l3) = (gI σ l0 24) then
      DX8_wordHere_95 l1 σ
    else
      DX8_wordHere_97 K4 FU l0 l1 l2 σ
  else
    DX8_wordHere_97 K4 FU l0 l1 l2 σ
theorem tX8_wordHere_69 {r : Int32} {σ' : Sg} (C : Cx E p s m args meth c RX8 cX8_wordHere 4) (hr : meth.sig.returnType = (some .int)) {K4 : Nat → Int32 → Int32 → Sg → Option (Int32 × Sg)} (hK4 : ∀ (l0 : Nat) (l1 : Int32) (l2 : Int32) (σ : Sg), K4 l0 l1 l2 σ = some (r, σ') → Y E p l e (rmA 6 0 0) s m args below meth c (some (.int r)) σ' 0 0 4 0 0 σ 4 [some (.ref (ad E l0)), some (.int l1), some (.int l2), none] []) {l0 : Nat} {l1 : Int32} {l2 : Int32} {l3 : Int32} {σ : Sg} (h : DX8_wordHere_69 K4 l0 l1 l2 l3 σ = some (r, σ')) : Y E p l e (rmA 6 0 0) s m args below meth c (some (.int r)) σ' 0 0 4 0 0 σ 69 [some (.ref (ad E l0)), some (.int l1), some (.int l2), some (.int l3)] [] := by
  unfold DX8_wordHere_69 at h
  refine x_ldcWords (pc := 69) C dX8_wordHere_69 ?_
  refine x_iload_n (pc := 71) C dX8_wordHere_71 rfl rfl ?_
  refine x_iload_n (pc := 72) C dX8_wordHere_72 rfl rfl ?_
  refine x_iadd (pc := 73) C dX8_wordHere_73 ?_
  obtain ⟨k, h⟩ := chk_s h
  refine x_scharW (pc := 74) C k ⟨Nat.le_of_ble_eq_true rfl, Nat.le_of_ble_eq_true rfl, Nat.le_of_ble_eq_true rfl, Nat.le_of_ble_eq_true rfl⟩ (Nat.le_of_ble_eq_true rfl) dX8_wordHere_74 ?_
  refine x_bipush (v := 32) (pc := 77) C dX8_wordHere_77 (by decide) ?_
  refine x_icmp_ne (pc := 79) (tgt := 97) C dX8_wordHere_79 (by decide) (fun q => ?_) (fun q => ?_)
  · rw [if_pos q] at h
    refine x_aload_n (pc := 82) C dX8_wordHere_82 rfl rfl ?_
    obtain ⟨k, h⟩ := chk_s h
    refine x_getI (pc := 83) C fX8_128 rfl k dX8_wordHere_83 ?_
    refine x_iload_n (pc := 86) C dX8_wordHere_86 rfl rfl ?_
    refine x_iadd (pc := 87) C dX8_wordHere_87 ?_
    refine x_aload_n (pc := 88) C dX8_wordHere_88 rfl rfl ?_
    obtain ⟨k, h⟩ := chk_s h
    refine x_getI (pc := 89) C fX8_118 rfl k dX8_wordHere_89 ?_
    refine x_icmp_ne (pc := 92) (tgt := 97) C dX8_wordHere_92 (by decide) (fun q => ?_) (fun q => ?_)
    · rw [if_pos q] at h
      exact x_sub (tX8_wordHere_95 C hr h) (xLe_n (xLe_s (xLe_n (xLe_n xLe_0))))
    · rw [if_neg q] at h
      exact x_sub (tX8_wordHere_97 C hr hK4 FU _ _ _ _ h) (xLe_s (xLe_s (xLe_s (xLe_n xLe_0))))
  · rw [if_neg q] at h
    exact x_sub (tX8_wordHere_97 C hr hK4 FU _ _ _ _ h) (xLe_s (xLe_s (xLe_s (xLe_n xLe_0))))
def DX8_wordHere_15 (K4 : Nat → Int32 → Int32 → Sg → Option (Int32 × Sg)) : Nat → Nat → Int32 → Int32 → Int32 → Sg → Option (Int32 × Sg)
  | 0, _, _, _, _, _ => none
  | n + 1, l0, l1, l2, l3, σ =>
    chk (inb (l2 + l3) 85) <|
    if (wrd.getD (l2 + l3).toNatClampNeg 0) = (32 : Int32) then
      DX8_wordHere_69 K4 l0 l1 l2 l3 σ
    else
      chk (ckO σ 6 l0) <|
      chk (ckO σ 6 l0) <|
      if (gI σ l0 24) ≤ ((gI σ l0 25) + l3) then
        DX8_wordHere_69 K4 l0 l1 l2 l3 σ
      else
        chk (ckO σ 6 l0) <|
        chk (ckV (gR σ l0 1)) <|
        chk (ckO σ 6 l0) <|
        chk (ckI σ (gR σ l0 1) ((gI σ l0 25) + l3)) <|
        chk (inb (l2 + l3) 85) <|
        if (aI σ (gR σ l0 1) ((gI σ l0 25) + l3).toNatClampNeg) = (wrd.getD (l2 + l3).toNatClampNeg 0) then
          DX8_wordHere_15 K4 n l0 l1 l2 (l3 + (1 : Int32)) σ
        else
          DX8_wordHere_69 K4 l0 l1 l2 l3 σ
theorem tX8_wordHere_15 {r : Int32} {σ' : Sg} (C : Cx E p s m args meth c RX8 cX8_wordHere 4) (hr : meth.sig.returnType = (some .int)) {K4 : Nat → Int32 → Int32 → Sg → Option (Int32 × Sg)} (hK4 : ∀ (l0 : Nat) (l1 : Int32) (l2 : Int32) (σ : Sg), K4 l0 l1 l2 σ = some (r, σ') → Y E p l e (rmA 6 0 0) s m args below meth c (some (.int r)) σ' 0 0 4 0 0 σ 4 [some (.ref (ad E l0)), some (.int l1), some (.int l2), none] []) : ∀ (n : Nat) (l0 : Nat) (l1 : Int32) (l2 : Int32) (l3 : Int32) (σ : Sg) (h : DX8_wordHere_15 K4 n l0 l1 l2 l3 σ = some (r, σ')), Y E p l e (rmA 6 0 0) s m args below meth c (some (.int r)) σ' 0 0 4 0 0 σ 15 [some (.ref (ad E l0)), some (.int l1), some (.int l2), some (.int l3)] [] := by
  intro n
  induction n with
  | zero => intro l0 l1 l2 l3 σ h; cases h
  | succ n ih =>
    intro l0 l1 l2 l3 σ h
    unfold DX8_wordHere_15 at h
    refine x_ldcWords (pc := 15) C dX8_wordHere_15 ?_
    refine x_iload_n (pc := 17) C dX8_wordHere_17 rfl rfl ?_
    refine x_iload_n (pc := 18) C dX8_wordHere_18 rfl rfl ?_
    refine x_iadd (pc := 19) C dX8_wordHere_19 ?_
    obtain ⟨k, h⟩ := chk_s h
    refine x_scharW (pc := 20) C k ⟨Nat.le_of_ble_eq_true rfl, Nat.le_of_ble_eq_true rfl, Nat.le_of_ble_eq_true rfl, Nat.le_of_ble_eq_true rfl⟩ (Nat.le_of_ble_eq_true rfl) dX8_wordHere_20 ?_
    refine x_bipush (v := 32) (pc := 23) C dX8_wordHere_23 (by decide) ?_
    refine x_icmp_eq (pc := 25) (tgt := 69) C dX8_wordHere_25 (by decide) (fun q => ?_) (fun q => ?_)
    · rw [if_pos q] at h
      exact x_sub (tX8_wordHere_69 C hr hK4 h) (xLe_s (xLe_s (xLe_s (xLe_s xLe_0))))
    · rw [if_neg q] at h
      refine x_aload_n (pc := 28) C dX8_wordHere_28 rfl rfl ?_
      obtain ⟨k, h⟩ := chk_s h
      refine x_getI (pc := 29) C fX8_128 rfl k dX8_wordHere_29 ?_
      refine x_iload_n (pc := 32) C dX8_wordHere_32 rfl rfl ?_
      refine x_iadd (pc := 33) C dX8_wordHere_33 ?_
      refine x_aload_n (pc := 34) C dX8_wordHere_34 rfl rfl ?_
      obtain ⟨k, h⟩ := chk_s h
      refine x_getI (pc := 35) C fX8_118 rfl k dX8_wordHere_35 ?_
      refine x_icmp_ge (pc := 38) (tgt := 69) C dX8_wordHere_38 (by decide) (fun q => ?_) (fun q => ?_)
      · rw [if_pos q] at h
        exact x_sub (tX8_wordHere_69 C hr hK4 h) (xLe_s (xLe_s (xLe_s (xLe_s xLe_0))))
      · rw [if_neg q] at h
        refine x_aload_n (pc := 41) C dX8_wordHere_41 rfl rfl ?_
        obtain ⟨k, h⟩ := chk_s h
        have k2 := k
        obtain ⟨k, h⟩ := chk_s h
        refine x_getR (pc := 42) C fX8_7 rfl k2 k dX8_wordHere_42 ?_
        refine x_aload_n (pc := 45) C dX8_wordHere_45 rfl rfl ?_
        obtain ⟨k, h⟩ := chk_s h
        refine x_getI (pc := 46) C fX8_128 rfl k dX8_wordHere_46 ?_
        refine x_iload_n (pc := 49) C dX8_wordHere_49 rfl rfl ?_
        refine x_iadd (pc := 50) C dX8_wordHere_50 ?_
        obtain ⟨k, h⟩ := chk_s h
        refine x_iald (pc := 51) C k dX8_wordHere_51 ?_
        refine x_ldcWords (pc := 52) C dX8_wordHere_52 ?_
        refine x_iload_n (pc := 54) C dX8_wordHere_54 rfl rfl ?_
        refine x_iload_n (pc := 55) C dX8_wordHere_55 rfl rfl ?_
        refine x_iadd (pc := 56) C dX8_wordHere_56 ?_
        obtain ⟨k, h⟩ := chk_s h
        refine x_scharW (pc := 57) C k ⟨Nat.le_of_ble_eq_true rfl, Nat.le_of_ble_eq_true rfl, Nat.le_of_ble_eq_true rfl, Nat.le_of_ble_eq_true rfl⟩ (Nat.le_of_ble_eq_true rfl) dX8_wordHere_57 ?_
        refine x_icmp_ne (pc := 60) (tgt := 69) C dX8_wordHere_60 (by decide) (fun q => ?_) (fun q => ?_)
        · rw [if_pos q] at h
          refine x_iinc (v := 1) (M := [some _, some _, some _, some _]) (pc := 63) C dX8_wordHere_63 rfl (by decide) (by decide) rfl ?_
          refine x_goto (tgt := 15) (pc := 66) C dX8_wordHere_66 (by decide) ?_
          exact x_sub (ih _ _ _ _ _ h) (xLe_s (xLe_s (xLe_s (xLe_s xLe_0))))
        · rw [if_neg q] at h
          exact x_sub (tX8_wordHere_69 C hr hK4 h) (xLe_s (xLe_s (xLe_s (xLe_s xLe_0))))
def DX8_wordHere_123 (σ : Sg) : Option (Int32 × Sg) :=
  some ((-1 : Int32), σ)
theorem tX8_wordHere_123 {r : Int32} {σ' : Sg} (C : Cx E p s m args meth c RX8 cX8_wordHere 4) (hr : meth.sig.returnType = (some .int)) {σ : Sg} (h : DX8_wordHere_123  σ = some (r, σ')) : Y E p l e (rmA 6 0 0) s m args below meth c (some (.int r)) σ' 0 0 4 0 0 σ 123 [none, none, none, none] [] := by
  unfold DX8_wordHere_123 at h
  refine x_iconst (v := -1) (pc := 123) C dX8_wordHere_123 (by decide) ?_
  cases h
  exact x_iret C hr dX8_wordHere_124
def DX8_wordHere_4 : Nat → Nat → Int32 → Int32 → Sg → Option (Int32 × Sg)
  | 0, _, _, _, _ => none
  | n + 1, l0, l1, l2, σ =>
    if (85 : Int32) ≤ l2 then
      DX8_wordHere_123 σ
    else
      DX8_wordHere_15 (DX8_wordHere_4 n) FU l0 l1 l2 (0 : Int32) σ
theorem tX8_wordHere_4 {r : Int32} {σ' : Sg} (C : Cx E p s m args meth c RX8 cX8_wordHere 4) (hr : meth.sig.returnType = (some .int)) : ∀ (n : Nat) (l0 : Nat) (l1 : Int32) (l2 : Int32) (σ : Sg) (h : DX8_wordHere_4 n l0 l1 l2 σ = some (r, σ')), Y E p l e (rmA 6 0 0) s m args below meth c (some (.int r)) σ' 0 0 4 0 0 σ 4 [some (.ref (ad E l0)), some (.int l1), some (.int l2), none] [] := by
  intro n
  induction n with
  | zero => intro l0 l1 l2 σ h; cases h
  | succ n ih =>
    intro l0 l1 l2 σ h
    unfold DX8_wordHere_4 at h
    refine x_iload_n (pc := 4) C dX8_wordHere_4 rfl rfl ?_
    refine x_ldcWords (pc := 5) C dX8_wordHere_5 ?_
    refine x_slenW (pc := 7) C ⟨Nat.le_of_ble_eq_true rfl, Nat.le_of_ble_eq_true rfl, Nat.le_of_ble_eq_true rfl, Nat.le_of_ble_eq_true rfl⟩ (Nat.le_of_ble_eq_true rfl) dX8_wordHere_7 ?_
    refine x_icmp_ge (pc := 10) (tgt := 123) C dX8_wordHere_10 (by decide) (fun q => ?_) (fun q => ?_)
    · rw [if_pos q] at h
      exact x_sub (tX8_wordHere_123 C hr h) (xLe_n (xLe_n (xLe_n (xLe_n xLe_0))))
    · rw [if_neg q] at h
      refine x_iconst (v := 0) (pc := 13) C dX8_wordHere_13 (by decide) ?_
      refine x_istore_n (M := [some _, some _, some _, some _]) (pc := 14) C dX8_wordHere_14 rfl (by decide) rfl ?_
      exact x_sub (tX8_wordHere_15 C hr ih FU _ _ _ _ _ h) (xLe_s (xLe_s (xLe_s (xLe_s xLe_0))))
def DX8_wordHere (l0 : Nat) (σ : Sg) : Option (Int32 × Sg) :=
  DX8_wordHere_4 FU l0 (0 : Int32) (0 : Int32) σ
theorem mX8_wordHere (E : Ev) (l : Launch) {l0 : Nat} {σ : Sg} {r : Int32} {σ' : Sg} (h : DX8_wordHere l0 σ = some (r, σ')) : Mt E l yX8_wordHere cX8_wordHere 4 (some .int) 6 0 0 [.ref (ad E l0)] σ (some (.int r)) σ' := by
  refine Mt.ofX (by decide) (Nat.le_of_ble_eq_true rfl) (L0 := [some (.ref (ad E l0)), none, none, none]) (xEntN_ok [.ref (ad E l0)] 4) (fun p e s m args below meth c C hr hn => ?_)
  unfold DX8_wordHere at h
  refine x_iconst (v := 0) (pc := 0) C dX8_wordHere_0 (by decide) ?_
  refine x_istore_n (M := [some _, some _, none, none]) (pc := 1) C dX8_wordHere_1 rfl (by decide) rfl ?_
  refine x_iconst (v := 0) (pc := 2) C dX8_wordHere_2 (by decide) ?_
  refine x_istore_n (M := [some _, some _, some _, none]) (pc := 3) C dX8_wordHere_3 rfl (by decide) rfl ?_
  exact x_sub (tX8_wordHere_4 C hr FU _ _ _ _ h) (xLe_s (xLe_s (xLe_s (xLe_n xLe_0))))
def DX8_token_18 (K0 : Nat → Sg → Option (Unit × Sg)) (l0 : Nat) (σ : Sg) : Option (Unit × Sg) :=
  chk (ckO σ 6 l0) <|
  chk (ckO σ 6 l0) <|
  wlet (pI σ l0 24 ((gI σ l0 24) + (1 : Int32))) fun σ1 =>
  K0 l0 σ1
theorem tX8_token_18 {r : Unit} {σ' : Sg} (C : Cx E p s m args meth c RX8 cX8_token 2) (hr : meth.sig.returnType = none) {K0 : Nat → Sg → Option (Unit × Sg)} (hK0 : ∀ (l0 : Nat) (σ : Sg), K0 l0 σ = some (r, σ') → Y E p l e (rmA 7 0 0) s m args below meth c none σ' 0 0 2 0 0 σ 0 [some (.ref (ad E l0)), none] []) {l0 : Nat} {σ : Sg} (h : DX8_token_18 K0 l0 σ = some (r, σ')) : Y E p l e (rmA 7 0 0) s m args below meth c none σ' 0 0 2 0 0 σ 18 [some (.ref (ad E l0)), none] [] := by
  unfold DX8_token_18 at h
  refine x_aload_n (pc := 18) C dX8_token_18 rfl rfl ?_
  refine x_dup (pc := 19) C dX8_token_19 rfl ?_
  obtain ⟨k, h⟩ := chk_s h
  refine x_getI (pc := 20) C fX8_118 rfl k dX8_token_20 ?_
  refine x_iconst (v := 1) (pc := 23) C dX8_token_23 (by decide) ?_
  refine x_iadd (pc := 24) C dX8_token_24 ?_
  obtain ⟨k, h⟩ := chk_s h
  obtain ⟨σ1, e1, h⟩ := wlet_s h
  refine x_putI (pc := 25) C pX8_118 rfl k dX8_token_25 (x_eq e1 ?_)
  refine x_goto (tgt := 0) (pc := 28) C dX8_token_28 (by decide) ?_
  exact x_sub (hK0 _ _ h) (xLe_s (xLe_n xLe_0))
def DX8_token_268 (σ : Sg) : Option (Unit × Sg) :=
  some ((), σ)
theorem tX8_token_268 {r : Unit} {σ' : Sg} (C : Cx E p s m args meth c RX8 cX8_token 2) (hr : meth.sig.returnType = none) {σ : Sg} (h : DX8_token_268  σ = some (r, σ')) : Y E p l e (rmA 7 0 0) s m args below meth c none σ' 0 0 2 0 0 σ 268 [none, none] [] := by
  unfold DX8_token_268 at h
  cases h
  exact x_vret C hr dX8_token_268
def DX8_token_113 (K69 : Nat → Sg → Option (Unit × Sg)) (l0 : Nat) (σ : Sg) : Option (Unit × Sg) :=
  chk (ckO σ 6 l0) <|
  chk (ckO σ 6 l0) <|
  wlet (pI σ l0 24 ((gI σ l0 24) + (1 : Int32))) fun σ1 =>
  K69 l0 σ1
theorem tX8_token_113 {r : Unit} {σ' : Sg} (C : Cx E p s m args meth c RX8 cX8_token 2) (hr : meth.sig.returnType = none) {K69 : Nat → Sg → Option (Unit × Sg)} (hK69 : ∀ (l0 : Nat) (σ : Sg), K69 l0 σ = some (r, σ') → Y E p l e (rmA 7 0 0) s m args below meth c none σ' 0 0 2 0 0 σ 69 [some (.ref (ad E l0)), none] []) {l0 : Nat} {σ : Sg} (h : DX8_token_113 K69 l0 σ = some (r, σ')) : Y E p l e (rmA 7 0 0) s m args below meth c none σ' 0 0 2 0 0 σ 113 [some (.ref (ad E l0)), none] [] := by
  unfold DX8_token_113 at h
  refine x_aload_n (pc := 113) C dX8_token_113 rfl rfl ?_
  refine x_dup (pc := 114) C dX8_token_114 rfl ?_
  obtain ⟨k, h⟩ := chk_s h
  refine x_getI (pc := 115) C fX8_118 rfl k dX8_token_115 ?_
  refine x_iconst (v := 1) (pc := 118) C dX8_token_118 (by decide) ?_
  refine x_iadd (pc := 119) C dX8_token_119 ?_
  obtain ⟨k, h⟩ := chk_s h
  obtain ⟨σ1, e1, h⟩ := wlet_s h
  refine x_putI (pc := 120) C pX8_118 rfl k dX8_token_120 (x_eq e1 ?_)
  refine x_goto (tgt := 69) (pc := 123) C dX8_token_123 (by decide) ?_
  exact x_sub (hK69 _ _ h) (xLe_s (xLe_n xLe_0))
def DX8_token_162 (s0 : Nat) (s1 : Int32) (σ : Sg) : Option (Unit × Sg) :=
  chk (ckO σ 6 s0) <|
  wlet (pI σ s0 26 s1) fun σ1 =>
  DX8_token_268 σ1
theorem tX8_token_162 {r : Unit} {σ' : Sg} (C : Cx E p s m args meth c RX8 cX8_token 2) (hr : meth.sig.returnType = none) {s0 : Nat} {s1 : Int32} {σ : Sg} (h : DX8_token_162 s0 s1 σ = some (r, σ')) : Y E p l e (rmA 7 0 0) s m args below meth c none σ' 0 0 2 0 0 σ 162 [none, none] [.int s1, .ref (ad E s0)] := by
  unfold DX8_token_162 at h
  obtain ⟨k, h⟩ := chk_s h
  obtain ⟨σ1, e1, h⟩ := wlet_s h
  refine x_putI (pc := 162) C pX8_131 rfl k dX8_token_162 (x_eq e1 ?_)
  refine x_goto (tgt := 268) (pc := 165) C dX8_token_165 (by decide) ?_
  exact x_sub (tX8_token_268 C hr h) (xLe_n (xLe_n xLe_0))
def DX8_token_157 (s0 : Nat) (σ : Sg) : Option (Unit × Sg) :=
  DX8_token_162 s0 (0 : Int32) σ
theorem tX8_token_157 {r : Unit} {σ' : Sg} (C : Cx E p s m args meth c RX8 cX8_token 2) (hr : meth.sig.returnType = none) {s0 : Nat} {σ : Sg} (h : DX8_token_157 s0 σ = some (r, σ')) : Y E p l e (rmA 7 0 0) s m args below meth c none σ' 0 0 2 0 0 σ 157 [none, none] [.ref (ad E s0)] := by
  unfold DX8_token_157 at h
  refine x_iconst (v := 0) (pc := 157) C dX8_token_157 (by decide) ?_
  refine x_goto (tgt := 162) (pc := 158) C dX8_token_158 (by decide) ?_
  exact x_sub (tX8_token_162 C hr h) (xLe_n (xLe_n xLe_0))
def DX8_token_126 (l0 : Nat) (σ : Sg) : Option (Unit × Sg) :=
  chk (ckO σ 6 l0) <|
  bnd (DX8_wordHere l0 σ) fun v1 σ2 =>
  chk (ckO σ2 6 l0) <|
  wlet (pI σ2 l0 27 v1) fun σ3 =>
  chk (ckO σ3 6 l0) <|
  chk (ckO σ3 6 l0) <|
  if ((gI σ3 l0 24) - (gI σ3 l0 25)) ≤ (6 : Int32) then
    DX8_token_157 l0 σ3
  else
    chk (ckO σ3 6 l0) <|
    if (gI σ3 l0 27) = (-1 : Int32) then
      DX8_token_162 l0 (4 : Int32) σ3
    else
      DX8_token_157 l0 σ3
theorem tX8_token_126 {r : Unit} {σ' : Sg} (C : Cx E p s m args meth c RX8 cX8_token 2) (hr : meth.sig.returnType = none) {l0 : Nat} {σ : Sg} (h : DX8_token_126 l0 σ = some (r, σ')) : Y E p l e (rmA 7 0 0) s m args below meth c none σ' 0 0 2 0 0 σ 126 [some (.ref (ad E l0)), none] [] := by
  unfold DX8_token_126 at h
  refine x_aload_n (pc := 126) C dX8_token_126 rfl rfl ?_
  refine x_aload_n (pc := 127) C dX8_token_127 rfl rfl ?_
  obtain ⟨k, h⟩ := chk_s h
  have k2 := k
  obtain ⟨v1, σ2, k, h⟩ := bnd_s h
  refine x_callV1 (pc := 128) C (mX8_wordHere E l k) cl6 k2 cX8_141 nX8_wordHere sX8_wordHere rfl rfl (Nat.le_of_ble_eq_true rfl) ⟨Nat.le_of_ble_eq_true rfl, Nat.le_of_ble_eq_true rfl, Nat.le_of_ble_eq_true rfl, Nat.le_of_ble_eq_true rfl⟩ dX8_token_128 ?_
  obtain ⟨k, h⟩ := chk_s h
  obtain ⟨σ3, e1, h⟩ := wlet_s h
  refine x_putI (pc := 131) C pX8_144 rfl k dX8_token_131 (x_eq e1 ?_)
  refine x_aload_n (pc := 134) C dX8_token_134 rfl rfl ?_
  refine x_aload_n (pc := 135) C dX8_token_135 rfl rfl ?_
  obtain ⟨k, h⟩ := chk_s h
  refine x_getI (pc := 136) C fX8_118 rfl k dX8_token_136 ?_
  refine x_aload_n (pc := 139) C dX8_token_139 rfl rfl ?_
  obtain ⟨k, h⟩ := chk_s h
  refine x_getI (pc := 140) C fX8_128 rfl k dX8_token_140 ?_
  refine x_isub (pc := 143) C dX8_token_143 ?_
  refine x_bipush (v := 6) (pc := 144) C dX8_token_144 (by decide) ?_
  refine x_icmp_le (pc := 146) (tgt := 157) C dX8_token_146 (by decide) (fun q => ?_) (fun q => ?_)
  · rw [if_pos q] at h
    exact x_sub (tX8_token_157 C hr h) (xLe_n (xLe_n xLe_0))
  · rw [if_neg q] at h
    refine x_aload_n (pc := 149) C dX8_token_149 rfl rfl ?_
    obtain ⟨k, h⟩ := chk_s h
    refine x_getI (pc := 150) C fX8_144 rfl k dX8_token_150 ?_
    refine x_iconst (v := -1) (pc := 153) C dX8_token_153 (by decide) ?_
    refine x_icmp_eq (pc := 154) (tgt := 161) C dX8_token_154 (by decide) (fun q => ?_) (fun q => ?_)
    · rw [if_pos q] at h
      refine x_iconst (v := 4) (pc := 161) C dX8_token_161 (by decide) ?_
      exact x_sub (tX8_token_162 C hr h) (xLe_n (xLe_n xLe_0))
    · rw [if_neg q] at h
      exact x_sub (tX8_token_157 C hr h) (xLe_n (xLe_n xLe_0))
def DX8_token_69 : Nat → Nat → Sg → Option (Unit × Sg)
  | 0, _, _ => none
  | n + 1, l0, σ =>
    chk (ckO σ 6 l0) <|
    bnd (DX8_here l0 σ) fun v1 σ2 =>
    bnd (DX8_isSmall v1 σ2) fun v3 σ4 =>
    if v3 = 0 then
      DX8_token_126 l0 σ4
    else
      chk (ckO σ4 6 l0) <|
      chk (ckO σ4 6 l0) <|
      if (6 : Int32) ≤ ((gI σ4 l0 24) - (gI σ4 l0 25)) then
        DX8_token_113 (DX8_token_69 n) l0 σ4
      else
        chk (ckO σ4 6 l0) <|
        chk (ckO σ4 6 l0) <|
        bnd (DX8_here l0 σ4) fun v5 σ6 =>
        chk (ckO σ6 6 l0) <|
        wlet (pI σ6 l0 28 (((gI σ4 l0 28) <<< ((5 : Int32) &&& 31)) ||| ((v5 - (97 : Int32)) + (1 : Int32)))) fun σ7 =>
        DX8_token_113 (DX8_token_69 n) l0 σ7
theorem tX8_token_69 {r : Unit} {σ' : Sg} (C : Cx E p s m args meth c RX8 cX8_token 2) (hr : meth.sig.returnType = none) : ∀ (n : Nat) (l0 : Nat) (σ : Sg) (h : DX8_token_69 n l0 σ = some (r, σ')), Y E p l e (rmA 7 0 0) s m args below meth c none σ' 0 0 2 0 0 σ 69 [some (.ref (ad E l0)), none] [] := by
  intro n
  induction n with
  | zero => intro l0 σ h; cases h
  | succ n ih =>
    intro l0 σ h
    unfold DX8_token_69 at h
    refine x_aload_n (pc := 69) C dX8_token_69 rfl rfl ?_
    obtain ⟨k, h⟩ := chk_s h
    have k2 := k
    obtain ⟨v1, σ2, k, h⟩ := bnd_s h
    refine x_callV1 (pc := 70) C (mX8_here E l k) cl6 k2 cX8_124 nX8_here sX8_here rfl rfl (Nat.le_of_ble_eq_true rfl) ⟨Nat.le_of_ble_eq_true rfl, Nat.le_of_ble_eq_true rfl, Nat.le_of_ble_eq_true rfl, Nat.le_of_ble_eq_true rfl⟩ dX8_token_70 ?_
    obtain ⟨v3, σ4, k, h⟩ := bnd_s h
    refine x_callS1 (pc := 73) C (mX8_isSmall E l k) cX8_134 zX8_isSmall rfl rfl (Nat.le_of_ble_eq_true rfl) ⟨Nat.le_of_ble_eq_true rfl, Nat.le_of_ble_eq_true rfl, Nat.le_of_ble_eq_true rfl, Nat.le_of_ble_eq_true rfl⟩ dX8_token_73 ?_
    refine x_if_eq (pc := 76) (tgt := 126) C dX8_token_76 (by decide) (fun q => ?_) (fun q => ?_)
    · rw [if_pos q] at h
      exact x_sub (tX8_token_126 C hr h) (xLe_s (xLe_n xLe_0))
    · rw [if_neg q] at h
      refine x_aload_n (pc := 79) C dX8_token_79 rfl rfl ?_
      obtain ⟨k, h⟩ := chk_s h
      refine x_getI (pc := 80) C fX8_118 rfl k dX8_token_80 ?_
      refine x_aload_n (pc := 83) C dX8_token_83 rfl rfl ?_
      obtain ⟨k, h⟩ := chk_s h
      refine x_getI (pc := 84) C fX8_128 rfl k dX8_token_84 ?_
      refine x_isub (pc := 87) C dX8_token_87 ?_
      refine x_bipush (v := 6) (pc := 88) C dX8_token_88 (by decide) ?_
      refine x_icmp_ge (pc := 90) (tgt := 113) C dX8_token_90 (by decide) (fun q => ?_) (fun q => ?_)
      · rw [if_pos q] at h
        exact x_sub (tX8_token_113 C hr ih h) (xLe_s (xLe_n xLe_0))
      · rw [if_neg q] at h
        refine x_aload_n (pc := 93) C dX8_token_93 rfl rfl ?_
        refine x_aload_n (pc := 94) C dX8_token_94 rfl rfl ?_
        obtain ⟨k, h⟩ := chk_s h
        refine x_getI (pc := 95) C fX8_138 rfl k dX8_token_95 ?_
        refine x_iconst (v := 5) (pc := 98) C dX8_token_98 (by decide) ?_
        refine x_ishl (pc := 99) C dX8_token_99 ?_
        refine x_aload_n (pc := 100) C dX8_token_100 rfl rfl ?_
        obtain ⟨k, h⟩ := chk_s h
        have k2 := k
        obtain ⟨v5, σ6, k, h⟩ := bnd_s h
        refine x_callV1 (pc := 101) C (mX8_here E l k) cl6 k2 cX8_124 nX8_here sX8_here rfl rfl (Nat.le_of_ble_eq_true rfl) ⟨Nat.le_of_ble_eq_true rfl, Nat.le_of_ble_eq_true rfl, Nat.le_of_ble_eq_true rfl, Nat.le_of_ble_eq_true rfl⟩ dX8_token_101 ?_
        refine x_bipush (v := 97) (pc := 104) C dX8_token_104 (by decide) ?_
        refine x_isub (pc := 106) C dX8_token_106 ?_
        refine x_iconst (v := 1) (pc := 107) C dX8_token_107 (by decide) ?_
        refine x_iadd (pc := 108) C dX8_token_108 ?_
        refine x_ior (pc := 109) C dX8_token_109 ?_
        obtain ⟨k, h⟩ := chk_s h
        obtain ⟨σ7, e1, h⟩ := wlet_s h
        refine x_putI (pc := 110) C pX8_138 rfl k dX8_token_110 (x_eq e1 ?_)
        exact x_sub (tX8_token_113 C hr ih h) (xLe_s (xLe_n xLe_0))
def DX8_token_227 (K185 : Nat → Sg → Option (Unit × Sg)) (l0 : Nat) (s0 : Nat) (s1 : Int32) (σ : Sg) : Option (Unit × Sg) :=
  chk (ckO σ 6 s0) <|
  wlet (pI σ s0 27 s1) fun σ1 =>
  chk (ckO σ1 6 l0) <|
  chk (ckO σ1 6 l0) <|
  wlet (pI σ1 l0 24 ((gI σ1 l0 24) + (1 : Int32))) fun σ2 =>
  K185 l0 σ2
theorem tX8_token_227 {r : Unit} {σ' : Sg} (C : Cx E p s m args meth c RX8 cX8_token 2) (hr : meth.sig.returnType = none) {K185 : Nat → Sg → Option (Unit × Sg)} (hK185 : ∀ (l0 : Nat) (σ : Sg), K185 l0 σ = some (r, σ') → Y E p l e (rmA 7 0 0) s m args below meth c none σ' 0 0 2 0 0 σ 185 [some (.ref (ad E l0)), none] []) {l0 : Nat} {s0 : Nat} {s1 : Int32} {σ : Sg} (h : DX8_token_227 K185 l0 s0 s1 σ = some (r, σ')) : Y E p l e (rmA 7 0 0) s m args below meth c none σ' 0 0 2 0 0 σ 227 [some (.ref (ad E l0)), none] [.int s1, .ref (ad E s0)] := by
  unfold DX8_token_227 at h
  obtain ⟨k, h⟩ := chk_s h
  obtain ⟨σ1, e1, h⟩ := wlet_s h
  refine x_putI (pc := 227) C pX8_144 rfl k dX8_token_227 (x_eq e1 ?_)
  refine x_aload_n (pc := 230) C dX8_token_230 rfl rfl ?_
  refine x_dup (pc := 231) C dX8_token_231 rfl ?_
  obtain ⟨k, h⟩ := chk_s h
  refine x_getI (pc := 232) C fX8_118 rfl k dX8_token_232 ?_
  refine x_iconst (v := 1) (pc := 235) C dX8_token_235 (by decide) ?_
  refine x_iadd (pc := 236) C dX8_token_236 ?_
  obtain ⟨k, h⟩ := chk_s h
  obtain ⟨σ2, e1, h⟩ := wlet_s h
  refine x_putI (pc := 237) C pX8_118 rfl k dX8_token_237 (x_eq e1 ?_)
  refine x_goto (tgt := 185) (pc := 240) C dX8_token_240 (by decide) ?_
  exact x_sub (hK185 _ _ h) (xLe_s (xLe_n xLe_0))
def DX8_token_185 : Nat → Nat → Sg → Option (Unit × Sg)
  | 0, _, _ => none
  | n + 1, l0, σ =>
    chk (ckO σ 6 l0) <|
    bnd (DX8_here l0 σ) fun v1 σ2 =>
    bnd (DX8_isDigit v1 σ2) fun v3 σ4 =>
    if v3 = 0 then
      DX8_token_268 σ4
    else
      chk (ckO σ4 6 l0) <|
      if (gI σ4 l0 27) ≤ (9999999 : Int32) then
        chk (ckO σ4 6 l0) <|
        chk (ckO σ4 6 l0) <|
        bnd (DX8_here l0 σ4) fun v5 σ6 =>
        DX8_token_227 (DX8_token_185 n) l0 l0 ((((10 : Int32) * (gI σ4 l0 27)) + v5) - (48 : Int32)) σ6
      else
        chk (ckO σ4 6 l0) <|
        DX8_token_227 (DX8_token_185 n) l0 l0 (gI σ4 l0 27) σ4
theorem tX8_token_185 {r : Unit} {σ' : Sg} (C : Cx E p s m args meth c RX8 cX8_token 2) (hr : meth.sig.returnType = none) : ∀ (n : Nat) (l0 : Nat) (σ : Sg) (h : DX8_token_185 n l0 σ = some (r, σ')), Y E p l e (rmA 7 0 0) s m args below meth c none σ' 0 0 2 0 0 σ 185 [some (.ref (ad E l0)), none] [] := by
  intro n
  induction n with
  | zero => intro l0 σ h; cases h
  | succ n ih =>
    intro l0 σ h
    unfold DX8_token_185 at h
    refine x_aload_n (pc := 185) C dX8_token_185 rfl rfl ?_
    obtain ⟨k, h⟩ := chk_s h
    have k2 := k
    obtain ⟨v1, σ2, k, h⟩ := bnd_s h
    refine x_callV1 (pc := 186) C (mX8_here E l k) cl6 k2 cX8_124 nX8_here sX8_here rfl rfl (Nat.le_of_ble_eq_true rfl) ⟨Nat.le_of_ble_eq_true rfl, Nat.le_of_ble_eq_true rfl, Nat.le_of_ble_eq_true rfl, Nat.le_of_ble_eq_true rfl⟩ dX8_token_186 ?_
    obtain ⟨v3, σ4, k, h⟩ := bnd_s h
    refine x_callS1 (pc := 189) C (mX8_isDigit E l k) cX8_147 zX8_isDigit rfl rfl (Nat.le_of_ble_eq_true rfl) ⟨Nat.le_of_ble_eq_true rfl, Nat.le_of_ble_eq_true rfl, Nat.le_of_ble_eq_true rfl, Nat.le_of_ble_eq_true rfl⟩ dX8_token_189 ?_
    refine x_if_eq (pc := 192) (tgt := 268) C dX8_token_192 (by decide) (fun q => ?_) (fun q => ?_)
    · rw [if_pos q] at h
      exact x_sub (tX8_token_268 C hr h) (xLe_n (xLe_n xLe_0))
    · rw [if_neg q] at h
      refine x_aload_n (pc := 195) C dX8_token_195 rfl rfl ?_
      refine x_aload_n (pc := 196) C dX8_token_196 rfl rfl ?_
      obtain ⟨k, h⟩ := chk_s h
      refine x_getI (pc := 197) C fX8_144 rfl k dX8_token_197 ?_
      refine x_ldc (pc := 200) C kX8_150 dX8_token_200 ?_
      refine x_icmp_le (pc := 202) (tgt := 212) C dX8_token_202 (by decide) (fun q => ?_) (fun q => ?_)
      · rw [if_pos q] at h
        refine x_bipush (v := 10) (pc := 212) C dX8_token_212 (by decide) ?_
        refine x_aload_n (pc := 214) C dX8_token_214 rfl rfl ?_
        obtain ⟨k, h⟩ := chk_s h
        refine x_getI (pc := 215) C fX8_144 rfl k dX8_token_215 ?_
        refine x_imul (pc := 218) C dX8_token_218 ?_
        refine x_aload_n (pc := 219) C dX8_token_219 rfl rfl ?_
        obtain ⟨k, h⟩ := chk_s h
        have k2 := k
        obtain ⟨v5, σ6, k, h⟩ := bnd_s h
        refine x_callV1 (pc := 220) C (mX8_here E l k) cl6 k2 cX8_124 nX8_here sX8_here rfl rfl (Nat.le_of_ble_eq_true rfl) ⟨Nat.le_of_ble_eq_true rfl, Nat.le_of_ble_eq_true rfl, Nat.le_of_ble_eq_true rfl, Nat.le_of_ble_eq_true rfl⟩ dX8_token_220 ?_
        refine x_iadd (pc := 223) C dX8_token_223 ?_
        refine x_bipush (v := 48) (pc := 224) C dX8_token_224 (by decide) ?_
        refine x_isub (pc := 226) C dX8_token_226 ?_
        exact x_sub (tX8_token_227 C hr ih h) (xLe_s (xLe_n xLe_0))
      · rw [if_neg q] at h
        refine x_aload_n (pc := 205) C dX8_token_205 rfl rfl ?_
        obtain ⟨k, h⟩ := chk_s h
        refine x_getI (pc := 206) C fX8_144 rfl k dX8_token_206 ?_
        refine x_goto (tgt := 227) (pc := 209) C dX8_token_209 (by decide) ?_
        exact x_sub (tX8_token_227 C hr ih h) (xLe_s (xLe_n xLe_0))
def DX8_token_255 (l0 : Nat) (s0 : Nat) (s1 : Int32) (σ : Sg) : Option (Unit × Sg) :=
  chk (ckO σ 6 s0) <|
  wlet (pI σ s0 26 s1) fun σ1 =>
  chk (ckO σ1 6 l0) <|
  chk (ckO σ1 6 l0) <|
  wlet (pI σ1 l0 24 ((gI σ1 l0 24) + (1 : Int32))) fun σ2 =>
  DX8_token_268 σ2
theorem tX8_token_255 {r : Unit} {σ' : Sg} (C : Cx E p s m args meth c RX8 cX8_token 2) (hr : meth.sig.returnType = none) {l0 : Nat} {s0 : Nat} {s1 : Int32} {σ : Sg} (h : DX8_token_255 l0 s0 s1 σ = some (r, σ')) : Y E p l e (rmA 7 0 0) s m args below meth c none σ' 0 0 2 0 0 σ 255 [some (.ref (ad E l0)), none] [.int s1, .ref (ad E s0)] := by
  unfold DX8_token_255 at h
  obtain ⟨k, h⟩ := chk_s h
  obtain ⟨σ1, e1, h⟩ := wlet_s h
  refine x_putI (pc := 255) C pX8_131 rfl k dX8_token_255 (x_eq e1 ?_)
  refine x_aload_n (pc := 258) C dX8_token_258 rfl rfl ?_
  refine x_dup (pc := 259) C dX8_token_259 rfl ?_
  obtain ⟨k, h⟩ := chk_s h
  refine x_getI (pc := 260) C fX8_118 rfl k dX8_token_260 ?_
  refine x_iconst (v := 1) (pc := 263) C dX8_token_263 (by decide) ?_
  refine x_iadd (pc := 264) C dX8_token_264 ?_
  obtain ⟨k, h⟩ := chk_s h
  obtain ⟨σ2, e1, h⟩ := wlet_s h
  refine x_putI (pc := 265) C pX8_118 rfl k dX8_token_265 (x_eq e1 ?_)
  exact x_sub (tX8_token_268 C hr h) (xLe_n (xLe_n xLe_0))
def DX8_token_31 (l0 : Nat) (σ : Sg) : Option (Unit × Sg) :=
  chk (ckO σ 6 l0) <|
  chk (ckO σ 6 l0) <|
  wlet (pI σ l0 25 (gI σ l0 24)) fun σ1 =>
  chk (ckO σ1 6 l0) <|
  bnd (DX8_here l0 σ1) fun v2 σ3 =>
  if v2 = (-1 : Int32) then
    chk (ckO σ3 6 l0) <|
    wlet (pI σ3 l0 26 (3 : Int32)) fun σ4 =>
    DX8_token_268 σ4
  else
    bnd (DX8_isSmall v2 σ3) fun v5 σ6 =>
    if v5 = 0 then
      bnd (DX8_isDigit v2 σ6) fun v7 σ8 =>
      if v7 = 0 then
        if v2 = (59 : Int32) then
          DX8_token_255 l0 l0 (2 : Int32) σ8
        else
          DX8_token_255 l0 l0 (4 : Int32) σ8
      else
        chk (ckO σ8 6 l0) <|
        wlet (pI σ8 l0 26 (1 : Int32)) fun σ9 =>
        chk (ckO σ9 6 l0) <|
        wlet (pI σ9 l0 27 (0 : Int32)) fun σ10 =>
        DX8_token_185 FU l0 σ10
    else
      chk (ckO σ6 6 l0) <|
      wlet (pI σ6 l0 28 (0 : Int32)) fun σ11 =>
      DX8_token_69 FU l0 σ11
theorem tX8_token_31 {r : Unit} {σ' : Sg} (C : Cx E p s m args meth c RX8 cX8_token 2) (hr : meth.sig.returnType = none) {l0 : Nat} {σ : Sg} (h : DX8_token_31 l0 σ = some (r, σ')) : Y E p l e (rmA 7 0 0) s m args below meth c none σ' 0 0 2 0 0 σ 31 [some (.ref (ad E l0)), none] [] := by
  unfold DX8_token_31 at h
  refine x_aload_n (pc := 31) C dX8_token_31 rfl rfl ?_
  refine x_aload_n (pc := 32) C dX8_token_32 rfl rfl ?_
  obtain ⟨k, h⟩ := chk_s h
  refine x_getI (pc := 33) C fX8_118 rfl k dX8_token_33 ?_
  obtain ⟨k, h⟩ := chk_s h
  obtain ⟨σ1, e1, h⟩ := wlet_s h
  refine x_putI (pc := 36) C pX8_128 rfl k dX8_token_36 (x_eq e1 ?_)
  refine x_aload_n (pc := 39) C dX8_token_39 rfl rfl ?_
  obtain ⟨k, h⟩ := chk_s h
  have k2 := k
  obtain ⟨v2, σ3, k, h⟩ := bnd_s h
  refine x_callV1 (pc := 40) C (mX8_here E l k) cl6 k2 cX8_124 nX8_here sX8_here rfl rfl (Nat.le_of_ble_eq_true rfl) ⟨Nat.le_of_ble_eq_true rfl, Nat.le_of_ble_eq_true rfl, Nat.le_of_ble_eq_true rfl, Nat.le_of_ble_eq_true rfl⟩ dX8_token_40 ?_
  refine x_istore_n (M := [some _, some _]) (pc := 43) C dX8_token_43 rfl (by decide) rfl ?_
  refine x_iload_n (pc := 44) C dX8_token_44 rfl rfl ?_
  refine x_iconst (v := -1) (pc := 45) C dX8_token_45 (by decide) ?_
  refine x_icmp_ne (pc := 46) (tgt := 57) C dX8_token_46 (by decide) (fun q => ?_) (fun q => ?_)
  · rw [if_pos q] at h
    refine x_aload_n (pc := 49) C dX8_token_49 rfl rfl ?_
    refine x_iconst (v := 3) (pc := 50) C dX8_token_50 (by decide) ?_
    obtain ⟨k, h⟩ := chk_s h
    obtain ⟨σ4, e1, h⟩ := wlet_s h
    refine x_putI (pc := 51) C pX8_131 rfl k dX8_token_51 (x_eq e1 ?_)
    refine x_goto (tgt := 268) (pc := 54) C dX8_token_54 (by decide) ?_
    exact x_sub (tX8_token_268 C hr h) (xLe_n (xLe_n xLe_0))
  · rw [if_neg q] at h
    refine x_iload_n (pc := 57) C dX8_token_57 rfl rfl ?_
    obtain ⟨v5, σ6, k, h⟩ := bnd_s h
    refine x_callS1 (pc := 58) C (mX8_isSmall E l k) cX8_134 zX8_isSmall rfl rfl (Nat.le_of_ble_eq_true rfl) ⟨Nat.le_of_ble_eq_true rfl, Nat.le_of_ble_eq_true rfl, Nat.le_of_ble_eq_true rfl, Nat.le_of_ble_eq_true rfl⟩ dX8_token_58 ?_
    refine x_if_eq (pc := 61) (tgt := 168) C dX8_token_61 (by decide) (fun q => ?_) (fun q => ?_)
    · rw [if_pos q] at h
      refine x_iload_n (pc := 168) C dX8_token_168 rfl rfl ?_
      obtain ⟨v7, σ8, k, h⟩ := bnd_s h
      refine x_callS1 (pc := 169) C (mX8_isDigit E l k) cX8_147 zX8_isDigit rfl rfl (Nat.le_of_ble_eq_true rfl) ⟨Nat.le_of_ble_eq_true rfl, Nat.le_of_ble_eq_true rfl, Nat.le_of_ble_eq_true rfl, Nat.le_of_ble_eq_true rfl⟩ dX8_token_169 ?_
      refine x_if_eq (pc := 172) (tgt := 243) C dX8_token_172 (by decide) (fun q => ?_) (fun q => ?_)
      · rw [if_pos q] at h
        refine x_aload_n (pc := 243) C dX8_token_243 rfl rfl ?_
        refine x_iload_n (pc := 244) C dX8_token_244 rfl rfl ?_
        refine x_bipush (v := 59) (pc := 245) C dX8_token_245 (by decide) ?_
        refine x_icmp_ne (pc := 247) (tgt := 254) C dX8_token_247 (by decide) (fun q => ?_) (fun q => ?_)
        · rw [if_pos q] at h
          refine x_iconst (v := 2) (pc := 250) C dX8_token_250 (by decide) ?_
          refine x_goto (tgt := 255) (pc := 251) C dX8_token_251 (by decide) ?_
          exact x_sub (tX8_token_255 C hr h) (xLe_s (xLe_n xLe_0))
        · rw [if_neg q] at h
          refine x_iconst (v := 4) (pc := 254) C dX8_token_254 (by decide) ?_
          exact x_sub (tX8_token_255 C hr h) (xLe_s (xLe_n xLe_0))
      · rw [if_neg q] at h
        refine x_aload_n (pc := 175) C dX8_token_175 rfl rfl ?_
        refine x_iconst (v := 1) (pc := 176) C dX8_token_176 (by decide) ?_
        obtain ⟨k, h⟩ := chk_s h
        obtain ⟨σ9, e1, h⟩ := wlet_s h
        refine x_putI (pc := 177) C pX8_131 rfl k dX8_token_177 (x_eq e1 ?_)
        refine x_aload_n (pc := 180) C dX8_token_180 rfl rfl ?_
        refine x_iconst (v := 0) (pc := 181) C dX8_token_181 (by decide) ?_
        obtain ⟨k, h⟩ := chk_s h
        obtain ⟨σ10, e1, h⟩ := wlet_s h
        refine x_putI (pc := 182) C pX8_144 rfl k dX8_token_182 (x_eq e1 ?_)
        exact x_sub (tX8_token_185 C hr FU _ _ h) (xLe_s (xLe_n xLe_0))
    · rw [if_neg q] at h
      refine x_aload_n (pc := 64) C dX8_token_64 rfl rfl ?_
      refine x_iconst (v := 0) (pc := 65) C dX8_token_65 (by decide) ?_
      obtain ⟨k, h⟩ := chk_s h
      obtain ⟨σ11, e1, h⟩ := wlet_s h
      refine x_putI (pc := 66) C pX8_138 rfl k dX8_token_66 (x_eq e1 ?_)
      exact x_sub (tX8_token_69 C hr FU _ _ h) (xLe_s (xLe_n xLe_0))
def DX8_token_0 : Nat → Nat → Sg → Option (Unit × Sg)
  | 0, _, _ => none
  | n + 1, l0, σ =>
    chk (ckO σ 6 l0) <|
    bnd (DX8_here l0 σ) fun v1 σ2 =>
    if v1 = (10 : Int32) then
      DX8_token_18 (DX8_token_0 n) l0 σ2
    else
      chk (ckO σ2 6 l0) <|
      bnd (DX8_here l0 σ2) fun v3 σ4 =>
      if v3 = (32 : Int32) then
        DX8_token_18 (DX8_token_0 n) l0 σ4
      else
        DX8_token_31 l0 σ4
theorem tX8_token_0 {r : Unit} {σ' : Sg} (C : Cx E p s m args meth c RX8 cX8_token 2) (hr : meth.sig.returnType = none) : ∀ (n : Nat) (l0 : Nat) (σ : Sg) (h : DX8_token_0 n l0 σ = some (r, σ')), Y E p l e (rmA 7 0 0) s m args below meth c none σ' 0 0 2 0 0 σ 0 [some (.ref (ad E l0)), none] [] := by
  intro n
  induction n with
  | zero => intro l0 σ h; cases h
  | succ n ih =>
    intro l0 σ h
    unfold DX8_token_0 at h
    refine x_aload_n (pc := 0) C dX8_token_0 rfl rfl ?_
    obtain ⟨k, h⟩ := chk_s h
    have k2 := k
    obtain ⟨v1, σ2, k, h⟩ := bnd_s h
    refine x_callV1 (pc := 1) C (mX8_here E l k) cl6 k2 cX8_124 nX8_here sX8_here rfl rfl (Nat.le_of_ble_eq_true rfl) ⟨Nat.le_of_ble_eq_true rfl, Nat.le_of_ble_eq_true rfl, Nat.le_of_ble_eq_true rfl, Nat.le_of_ble_eq_true rfl⟩ dX8_token_1 ?_
    refine x_bipush (v := 10) (pc := 4) C dX8_token_4 (by decide) ?_
    refine x_icmp_eq (pc := 6) (tgt := 18) C dX8_token_6 (by decide) (fun q => ?_) (fun q => ?_)
    · rw [if_pos q] at h
      exact x_sub (tX8_token_18 C hr ih h) (xLe_s (xLe_n xLe_0))
    · rw [if_neg q] at h
      refine x_aload_n (pc := 9) C dX8_token_9 rfl rfl ?_
      obtain ⟨k, h⟩ := chk_s h
      have k2 := k
      obtain ⟨v3, σ4, k, h⟩ := bnd_s h
      refine x_callV1 (pc := 10) C (mX8_here E l k) cl6 k2 cX8_124 nX8_here sX8_here rfl rfl (Nat.le_of_ble_eq_true rfl) ⟨Nat.le_of_ble_eq_true rfl, Nat.le_of_ble_eq_true rfl, Nat.le_of_ble_eq_true rfl, Nat.le_of_ble_eq_true rfl⟩ dX8_token_10 ?_
      refine x_bipush (v := 32) (pc := 13) C dX8_token_13 (by decide) ?_
      refine x_icmp_ne (pc := 15) (tgt := 31) C dX8_token_15 (by decide) (fun q => ?_) (fun q => ?_)
      · rw [if_pos q] at h
        exact x_sub (tX8_token_18 C hr ih h) (xLe_s (xLe_n xLe_0))
      · rw [if_neg q] at h
        exact x_sub (tX8_token_31 C hr h) (xLe_s (xLe_n xLe_0))
def DX8_token (l0 : Nat) (σ : Sg) : Option (Unit × Sg) :=
  DX8_token_0 FU l0 σ
theorem mX8_token (E : Ev) (l : Launch) {l0 : Nat} {σ : Sg} {r : Unit} {σ' : Sg} (h : DX8_token l0 σ = some (r, σ')) : Mt E l yX8_token cX8_token 2 none 7 0 0 [.ref (ad E l0)] σ none σ' := by
  refine Mt.ofX (by decide) (Nat.le_of_ble_eq_true rfl) (L0 := [some (.ref (ad E l0)), none]) (xEntN_ok [.ref (ad E l0)] 2) (fun p e s m args below meth c C hr hn => ?_)
  unfold DX8_token at h
  exact x_sub (tX8_token_0 C hr FU _ _ h) (xLe_s (xLe_n xLe_0))
def DX8_wrong (l0 : Nat) (l1 : Int32) (σ : Sg) : Option (Unit × Sg) :=
  chk (ckO σ 6 l0) <|
  if (gI σ l0 29) = 0 then
    chk (ckO σ 6 l0) <|
    wlet (pI σ l0 29 l1) fun σ1 =>
    chk (ckO σ1 6 l0) <|
    chk (ckO σ1 6 l0) <|
    wlet (pI σ1 l0 30 (gI σ1 l0 25)) fun σ2 =>
    some ((), σ2)
  else
    some ((), σ)
theorem mX8_wrong (E : Ev) (l : Launch) {l0 : Nat} {l1 : Int32} {σ : Sg} {r : Unit} {σ' : Sg} (h : DX8_wrong l0 l1 σ = some (r, σ')) : Mt E l yX8_wrong cX8_wrong 2 none 1 0 0 [.ref (ad E l0), .int l1] σ none σ' := by
  refine Mt.ofX (by decide) (Nat.le_of_ble_eq_true rfl) (L0 := [some (.ref (ad E l0)), some (.int l1)]) (xEntN_ok [.ref (ad E l0), .int l1] 2) (fun p e s m args below meth c C hr hn => ?_)
  unfold DX8_wrong at h
  refine x_aload_n (pc := 0) C dX8_wrong_0 rfl rfl ?_
  obtain ⟨k, h⟩ := chk_s h
  refine x_getI (pc := 1) C fX8_162 rfl k dX8_wrong_1 ?_
  refine x_if_eq (pc := 4) (tgt := 8) C dX8_wrong_4 (by decide) (fun q => ?_) (fun q => ?_)
  · rw [if_pos q] at h
    refine x_aload_n (pc := 8) C dX8_wrong_8 rfl rfl ?_
    refine x_iload_n (pc := 9) C dX8_wrong_9 rfl rfl ?_
    obtain ⟨k, h⟩ := chk_s h
    obtain ⟨σ1, e1, h⟩ := wlet_s h
    refine x_putI (pc := 10) C pX8_162 rfl k dX8_wrong_10 (x_eq e1 ?_)
    refine x_aload_n (pc := 13) C dX8_wrong_13 rfl rfl ?_
    refine x_aload_n (pc := 14) C dX8_wrong_14 rfl rfl ?_
    obtain ⟨k, h⟩ := chk_s h
    refine x_getI (pc := 15) C fX8_128 rfl k dX8_wrong_15 ?_
    obtain ⟨k, h⟩ := chk_s h
    obtain ⟨σ2, e1, h⟩ := wlet_s h
    refine x_putI (pc := 18) C pX8_165 rfl k dX8_wrong_18 (x_eq e1 ?_)
    cases h
    exact x_vret C hr dX8_wrong_21
  · rw [if_neg q] at h
    cases h
    exact x_vret C hr dX8_wrong_7
def DX8_goOn_11 (σ : Sg) : Option (Unit × Sg) :=
  some ((), σ)
theorem tX8_goOn_11 {r : Unit} {σ' : Sg} (C : Cx E p s m args meth c RX8 cX8_goOn 1) (hr : meth.sig.returnType = none) {σ : Sg} (h : DX8_goOn_11  σ = some (r, σ')) : Y E p l e (rmA 8 0 0) s m args below meth c none σ' 0 0 1 0 0 σ 11 [none] [] := by
  unfold DX8_goOn_11 at h
  cases h
  exact x_vret C hr dX8_goOn_11
def DX8_goOn (l0 : Nat) (σ : Sg) : Option (Unit × Sg) :=
  chk (ckO σ 6 l0) <|
  if (gI σ l0 29) = 0 then
    chk (ckO σ 6 l0) <|
    bnd (DX8_token l0 σ) fun _ σ1 =>
    DX8_goOn_11 σ1
  else
    DX8_goOn_11 σ
theorem mX8_goOn (E : Ev) (l : Launch) {l0 : Nat} {σ : Sg} {r : Unit} {σ' : Sg} (h : DX8_goOn l0 σ = some (r, σ')) : Mt E l yX8_goOn cX8_goOn 1 none 8 0 0 [.ref (ad E l0)] σ none σ' := by
  refine Mt.ofX (by decide) (Nat.le_of_ble_eq_true rfl) (L0 := [some (.ref (ad E l0))]) (xEntN_ok [.ref (ad E l0)] 1) (fun p e s m args below meth c C hr hn => ?_)
  unfold DX8_goOn at h
  refine x_aload_n (pc := 0) C dX8_goOn_0 rfl rfl ?_
  obtain ⟨k, h⟩ := chk_s h
  refine x_getI (pc := 1) C fX8_162 rfl k dX8_goOn_1 ?_
  refine x_if_ne (pc := 4) (tgt := 11) C dX8_goOn_4 (by decide) (fun q => ?_) (fun q => ?_)
  · rw [if_pos q] at h
    refine x_aload_n (pc := 7) C dX8_goOn_7 rfl rfl ?_
    obtain ⟨k, h⟩ := chk_s h
    have k2 := k
    obtain ⟨u0, σ1, k, h⟩ := bnd_s h
    refine x_callV0 (pc := 8) C (mX8_token E l k) cl6 k2 cX8_168 nX8_token sX8_token rfl rfl (Nat.le_of_ble_eq_true rfl) ⟨Nat.le_of_ble_eq_true rfl, Nat.le_of_ble_eq_true rfl, Nat.le_of_ble_eq_true rfl, Nat.le_of_ble_eq_true rfl⟩ dX8_goOn_8 ?_
    exact x_sub (tX8_goOn_11 C hr h) (xLe_n xLe_0)
  · rw [if_neg q] at h
    exact x_sub (tX8_goOn_11 C hr h) (xLe_n xLe_0)
def DX8_isKey_27 (s0 : Int32) (σ : Sg) : Option (Int32 × Sg) :=
  chk (ck01 s0) <|
  some (s0, σ)
theorem tX8_isKey_27 {r : Int32} {σ' : Sg} (C : Cx E p s m args meth c RX8 cX8_isKey 2) (hr : meth.sig.returnType = (some .boolean)) {s0 : Int32} {σ : Sg} (h : DX8_isKey_27 s0 σ = some (r, σ')) : Y E p l e (rmA 1 0 0) s m args below meth c (some (.int r)) σ' 0 0 2 0 0 σ 27 [none, none] [.int s0] := by
  unfold DX8_isKey_27 at h
  obtain ⟨kz, h⟩ := chk_s h
  cases h
  exact x_zret C hr (nar_01 kz) dX8_isKey_27
def DX8_isKey_26 (σ : Sg) : Option (Int32 × Sg) :=
  DX8_isKey_27 (0 : Int32) σ
theorem tX8_isKey_26 {r : Int32} {σ' : Sg} (C : Cx E p s m args meth c RX8 cX8_isKey 2) (hr : meth.sig.returnType = (some .boolean)) {σ : Sg} (h : DX8_isKey_26  σ = some (r, σ')) : Y E p l e (rmA 1 0 0) s m args below meth c (some (.int r)) σ' 0 0 2 0 0 σ 26 [none, none] [] := by
  unfold DX8_isKey_26 at h
  refine x_iconst (v := 0) (pc := 26) C dX8_isKey_26 (by decide) ?_
  exact x_sub (tX8_isKey_27 C hr h) (xLe_n (xLe_n xLe_0))
def DX8_isKey (l0 : Nat) (l1 : Int32) (σ : Sg) : Option (Int32 × Sg) :=
  chk (ckO σ 6 l0) <|
  if (gI σ l0 29) = 0 then
    chk (ckO σ 6 l0) <|
    if (gI σ l0 26) = 0 then
      chk (ckO σ 6 l0) <|
      if (gI σ l0 27) = l1 then
        DX8_isKey_27 (1 : Int32) σ
      else
        DX8_isKey_26 σ
    else
      DX8_isKey_26 σ
  else
    DX8_isKey_26 σ
theorem mX8_isKey (E : Ev) (l : Launch) {l0 : Nat} {l1 : Int32} {σ : Sg} {r : Int32} {σ' : Sg} (h : DX8_isKey l0 l1 σ = some (r, σ')) : Mt E l yX8_isKey cX8_isKey 2 (some .boolean) 1 0 0 [.ref (ad E l0), .int l1] σ (some (.int r)) σ' := by
  refine Mt.ofX (by decide) (Nat.le_of_ble_eq_true rfl) (L0 := [some (.ref (ad E l0)), some (.int l1)]) (xEntN_ok [.ref (ad E l0), .int l1] 2) (fun p e s m args below meth c C hr hn => ?_)
  unfold DX8_isKey at h
  refine x_aload_n (pc := 0) C dX8_isKey_0 rfl rfl ?_
  obtain ⟨k, h⟩ := chk_s h
  refine x_getI (pc := 1) C fX8_162 rfl k dX8_isKey_1 ?_
  refine x_if_ne (pc := 4) (tgt := 26) C dX8_isKey_4 (by decide) (fun q => ?_) (fun q => ?_)
  · rw [if_pos q] at h
    refine x_aload_n (pc := 7) C dX8_isKey_7 rfl rfl ?_
    obtain ⟨k, h⟩ := chk_s h
    refine x_getI (pc := 8) C fX8_131 rfl k dX8_isKey_8 ?_
    refine x_if_ne (pc := 11) (tgt := 26) C dX8_isKey_11 (by decide) (fun q => ?_) (fun q => ?_)
    · rw [if_pos q] at h
      refine x_aload_n (pc := 14) C dX8_isKey_14 rfl rfl ?_
      obtain ⟨k, h⟩ := chk_s h
      refine x_getI (pc := 15) C fX8_144 rfl k dX8_isKey_15 ?_
      refine x_iload_n (pc := 18) C dX8_isKey_18 rfl rfl ?_
      refine x_icmp_ne (pc := 19) (tgt := 26) C dX8_isKey_19 (by decide) (fun q => ?_) (fun q => ?_)
      · rw [if_pos q] at h
        refine x_iconst (v := 1) (pc := 22) C dX8_isKey_22 (by decide) ?_
        refine x_goto (tgt := 27) (pc := 23) C dX8_isKey_23 (by decide) ?_
        exact x_sub (tX8_isKey_27 C hr h) (xLe_n (xLe_n xLe_0))
      · rw [if_neg q] at h
        exact x_sub (tX8_isKey_26 C hr h) (xLe_n (xLe_n xLe_0))
    · rw [if_neg q] at h
      exact x_sub (tX8_isKey_26 C hr h) (xLe_n (xLe_n xLe_0))
  · rw [if_neg q] at h
    exact x_sub (tX8_isKey_26 C hr h) (xLe_n (xLe_n xLe_0))
def DX8_isOther_27 (s0 : Int32) (σ : Sg) : Option (Int32 × Sg) :=
  chk (ck01 s0) <|
  some (s0, σ)
theorem tX8_isOther_27 {r : Int32} {σ' : Sg} (C : Cx E p s m args meth c RX8 cX8_isOther 1) (hr : meth.sig.returnType = (some .boolean)) {s0 : Int32} {σ : Sg} (h : DX8_isOther_27 s0 σ = some (r, σ')) : Y E p l e (rmA 1 0 0) s m args below meth c (some (.int r)) σ' 0 0 1 0 0 σ 27 [none] [.int s0] := by
  unfold DX8_isOther_27 at h
  obtain ⟨kz, h⟩ := chk_s h
  cases h
  exact x_zret C hr (nar_01 kz) dX8_isOther_27
def DX8_isOther_26 (σ : Sg) : Option (Int32 × Sg) :=
  DX8_isOther_27 (0 : Int32) σ
theorem tX8_isOther_26 {r : Int32} {σ' : Sg} (C : Cx E p s m args meth c RX8 cX8_isOther 1) (hr : meth.sig.returnType = (some .boolean)) {σ : Sg} (h : DX8_isOther_26  σ = some (r, σ')) : Y E p l e (rmA 1 0 0) s m args below meth c (some (.int r)) σ' 0 0 1 0 0 σ 26 [none] [] := by
  unfold DX8_isOther_26 at h
  refine x_iconst (v := 0) (pc := 26) C dX8_isOther_26 (by decide) ?_
  exact x_sub (tX8_isOther_27 C hr h) (xLe_n xLe_0)
def DX8_isOther (l0 : Nat) (σ : Sg) : Option (Int32 × Sg) :=
  chk (ckO σ 6 l0) <|
  if (gI σ l0 29) = 0 then
    chk (ckO σ 6 l0) <|
    if (gI σ l0 26) = 0 then
      chk (ckO σ 6 l0) <|
      if (gI σ l0 27) = (-1 : Int32) then
        DX8_isOther_27 (1 : Int32) σ
      else
        DX8_isOther_26 σ
    else
      DX8_isOther_26 σ
  else
    DX8_isOther_26 σ
theorem mX8_isOther (E : Ev) (l : Launch) {l0 : Nat} {σ : Sg} {r : Int32} {σ' : Sg} (h : DX8_isOther l0 σ = some (r, σ')) : Mt E l yX8_isOther cX8_isOther 1 (some .boolean) 1 0 0 [.ref (ad E l0)] σ (some (.int r)) σ' := by
  refine Mt.ofX (by decide) (Nat.le_of_ble_eq_true rfl) (L0 := [some (.ref (ad E l0))]) (xEntN_ok [.ref (ad E l0)] 1) (fun p e s m args below meth c C hr hn => ?_)
  unfold DX8_isOther at h
  refine x_aload_n (pc := 0) C dX8_isOther_0 rfl rfl ?_
  obtain ⟨k, h⟩ := chk_s h
  refine x_getI (pc := 1) C fX8_162 rfl k dX8_isOther_1 ?_
  refine x_if_ne (pc := 4) (tgt := 26) C dX8_isOther_4 (by decide) (fun q => ?_) (fun q => ?_)
  · rw [if_pos q] at h
    refine x_aload_n (pc := 7) C dX8_isOther_7 rfl rfl ?_
    obtain ⟨k, h⟩ := chk_s h
    refine x_getI (pc := 8) C fX8_131 rfl k dX8_isOther_8 ?_
    refine x_if_ne (pc := 11) (tgt := 26) C dX8_isOther_11 (by decide) (fun q => ?_) (fun q => ?_)
    · rw [if_pos q] at h
      refine x_aload_n (pc := 14) C dX8_isOther_14 rfl rfl ?_
      obtain ⟨k, h⟩ := chk_s h
      refine x_getI (pc := 15) C fX8_144 rfl k dX8_isOther_15 ?_
      refine x_iconst (v := -1) (pc := 18) C dX8_isOther_18 (by decide) ?_
      refine x_icmp_ne (pc := 19) (tgt := 26) C dX8_isOther_19 (by decide) (fun q => ?_) (fun q => ?_)
      · rw [if_pos q] at h
        refine x_iconst (v := 1) (pc := 22) C dX8_isOther_22 (by decide) ?_
        refine x_goto (tgt := 27) (pc := 23) C dX8_isOther_23 (by decide) ?_
        exact x_sub (tX8_isOther_27 C hr h) (xLe_n xLe_0)
      · rw [if_neg q] at h
        exact x_sub (tX8_isOther_26 C hr h) (xLe_n xLe_0)
    · rw [if_neg q] at h
      exact x_sub (tX8_isOther_26 C hr h) (xLe_n xLe_0)
  · rw [if_neg q] at h
    exact x_sub (tX8_isOther_26 C hr h) (xLe_n xLe_0)
def DX8_number_63 (l0 : Nat) (s0 : Int32) (σ : Sg) : Option (Int32 × Sg) :=
  chk (ckO σ 6 l0) <|
  bnd (DX8_goOn l0 σ) fun _ σ1 =>
  some (s0, σ1)
theorem tX8_number_63 {r : Int32} {σ' : Sg} (C : Cx E p s m args meth c RX8 cX8_number 4) (hr : meth.sig.returnType = (some .int)) {l0 : Nat} {s0 : Int32} {σ : Sg} (h : DX8_number_63 l0 s0 σ = some (r, σ')) : Y E p l e (rmA 9 0 0) s m args below meth c (some (.int r)) σ' 0 0 4 0 0 σ 63 [some (.ref (ad E l0)), none, none, none] [.int s0] := by
  unfold DX8_number_63 at h
  refine x_istore_n (M := [some _, none, none, some _]) (pc := 63) C dX8_number_63 rfl (by decide) rfl ?_
  refine x_aload_n (pc := 64) C dX8_number_64 rfl rfl ?_
  obtain ⟨k, h⟩ := chk_s h
  have k2 := k
  obtain ⟨u0, σ1, k, h⟩ := bnd_s h
  refine x_callV0 (pc := 65) C (mX8_goOn E l k) cl6 k2 cX8_175 nX8_goOn sX8_goOn rfl rfl (Nat.le_of_ble_eq_true rfl) ⟨Nat.le_of_ble_eq_true rfl, Nat.le_of_ble_eq_true rfl, Nat.le_of_ble_eq_true rfl, Nat.le_of_ble_eq_true rfl⟩ dX8_number_65 ?_
  refine x_iload_n (pc := 68) C dX8_number_68 rfl rfl ?_
  cases h
  exact x_iret C hr dX8_number_69
def DX8_number_48 (l0 : Nat) (σ : Sg) : Option (Int32 × Sg) :=
  chk (ckO σ 6 l0) <|
  if (gI σ l0 29) = 0 then
    chk (ckO σ 6 l0) <|
    DX8_number_63 l0 (gI σ l0 27) σ
  else
    DX8_number_63 l0 (0 : Int32) σ
theorem tX8_number_48 {r : Int32} {σ' : Sg} (C : Cx E p s m args meth c RX8 cX8_number 4) (hr : meth.sig.returnType = (some .int)) {l0 : Nat} {σ : Sg} (h : DX8_number_48 l0 σ = some (r, σ')) : Y E p l e (rmA 9 0 0) s m args below meth c (some (.int r)) σ' 0 0 4 0 0 σ 48 [some (.ref (ad E l0)), none, none, none] [] := by
  unfold DX8_number_48 at h
  refine x_aload_n (pc := 48) C dX8_number_48 rfl rfl ?_
  obtain ⟨k, h⟩ := chk_s h
  refine x_getI (pc := 49) C fX8_162 rfl k dX8_number_49 ?_
  refine x_if_ne (pc := 52) (tgt := 62) C dX8_number_52 (by decide) (fun q => ?_) (fun q => ?_)
  · rw [if_pos q] at h
    refine x_aload_n (pc := 55) C dX8_number_55 rfl rfl ?_
    obtain ⟨k, h⟩ := chk_s h
    refine x_getI (pc := 56) C fX8_144 rfl k dX8_number_56 ?_
    refine x_goto (tgt := 63) (pc := 59) C dX8_number_59 (by decide) ?_
    exact x_sub (tX8_number_63 C hr h) (xLe_s (xLe_n (xLe_n (xLe_n xLe_0))))
  · rw [if_neg q] at h
    refine x_iconst (v := 0) (pc := 62) C dX8_number_62 (by decide) ?_
    exact x_sub (tX8_number_63 C hr h) (xLe_s (xLe_n (xLe_n (xLe_n xLe_0))))
def DX8_number_43 (l0 : Nat) (σ : Sg) : Option (Int32 × Sg) :=
  chk (ckO σ 6 l0) <|
  bnd (DX8_wrong l0 (2 : Int32) σ) fun _ σ1 =>
  DX8_number_48 l0 σ1
theorem tX8_number_43 {r : Int32} {σ' : Sg} (C : Cx E p s m args meth c RX8 cX8_number 4) (hr : meth.sig.returnType = (some .int)) {l0 : Nat} {σ : Sg} (h : DX8_number_43 l0 σ = some (r, σ')) : Y E p l e (rmA 9 0 0) s m args below meth c (some (.int r)) σ' 0 0 4 0 0 σ 43 [some (.ref (ad E l0)), none, none, none] [] := by
  unfold DX8_number_43 at h
  refine x_aload_n (pc := 43) C dX8_number_43 rfl rfl ?_
  refine x_iconst (v := 2) (pc := 44) C dX8_number_44 (by decide) ?_
  obtain ⟨k, h⟩ := chk_s h
  have k2 := k
  obtain ⟨u0, σ1, k, h⟩ := bnd_s h
  refine x_callV0 (pc := 45) C (mX8_wrong E l k) cl6 k2 cX8_171 nX8_wrong sX8_wrong rfl rfl (Nat.le_of_ble_eq_true rfl) ⟨Nat.le_of_ble_eq_true rfl, Nat.le_of_ble_eq_true rfl, Nat.le_of_ble_eq_true rfl, Nat.le_of_ble_eq_true rfl⟩ dX8_number_45 ?_
  exact x_sub (tX8_number_48 C hr h) (xLe_s (xLe_n (xLe_n (xLe_n xLe_0))))
def DX8_number_20 (l0 : Nat) (l1 : Int32) (l2 : Int32) (σ : Sg) : Option (Int32 × Sg) :=
  chk (ckO σ 6 l0) <|
  if (gI σ l0 29) = 0 then
    chk (ckO σ 6 l0) <|
    if (gI σ l0 27) < l1 then
      DX8_number_43 l0 σ
    else
      chk (ckO σ 6 l0) <|
      if (gI σ l0 27) ≤ l2 then
        DX8_number_48 l0 σ
      else
        DX8_number_43 l0 σ
  else
    DX8_number_48 l0 σ
theorem tX8_number_20 {r : Int32} {σ' : Sg} (C : Cx E p s m args meth c RX8 cX8_number 4) (hr : meth.sig.returnType = (some .int)) {l0 : Nat} {l1 : Int32} {l2 : Int32} {σ : Sg} (h : DX8_number_20 l0 l1 l2 σ = some (r, σ')) : Y E p l e (rmA 9 0 0) s m args below meth c (some (.int r)) σ' 0 0 4 0 0 σ 20 [some (.ref (ad E l0)), some (.int l1), some (.int l2), none] [] := by
  unfold DX8_number_20 at h
  refine x_aload_n (pc := 20) C dX8_number_20 rfl rfl ?_
  obtain ⟨k, h⟩ := chk_s h
  refine x_getI (pc := 21) C fX8_162 rfl k dX8_number_21 ?_
  refine x_if_ne (pc := 24) (tgt := 48) C dX8_number_24 (by decide) (fun q => ?_) (fun q => ?_)
  · rw [if_pos q] at h
    refine x_aload_n (pc := 27) C dX8_number_27 rfl rfl ?_
    obtain ⟨k, h⟩ := chk_s h
    refine x_getI (pc := 28) C fX8_144 rfl k dX8_number_28 ?_
    refine x_iload_n (pc := 31) C dX8_number_31 rfl rfl ?_
    refine x_icmp_lt (pc := 32) (tgt := 43) C dX8_number_32 (by decide) (fun q => ?_) (fun q => ?_)
    · rw [if_pos q] at h
      exact x_sub (tX8_number_43 C hr h) (xLe_s (xLe_n (xLe_n (xLe_n xLe_0))))
    · rw [if_neg q] at h
      refine x_aload_n (pc := 35) C dX8_number_35 rfl rfl ?_
      obtain ⟨k, h⟩ := chk_s h
      refine x_getI (pc := 36) C fX8_144 rfl k dX8_number_36 ?_
      refine x_iload_n (pc := 39) C dX8_number_39 rfl rfl ?_
      refine x_icmp_le (pc := 40) (tgt := 48) C dX8_number_40 (by decide) (fun q => ?_) (fun q => ?_)
      · rw [if_pos q] at h
        exact x_sub (tX8_number_48 C hr h) (xLe_s (xLe_n (xLe_n (xLe_n xLe_0))))
      · rw [if_neg q] at h
        exact x_sub (tX8_number_43 C hr h) (xLe_s (xLe_n (xLe_n (xLe_n xLe_0))))
  · rw [if_neg q] at h
    exact x_sub (tX8_number_48 C hr h) (xLe_s (xLe_n (xLe_n (xLe_n xLe_0))))
def DX8_number (l0 : Nat) (l1 : Int32) (l2 : Int32) (σ : Sg) : Option (Int32 × Sg) :=
  chk (ckO σ 6 l0) <|
  if (gI σ l0 29) = 0 then
    chk (ckO σ 6 l0) <|
    if (gI σ l0 26) = (1 : Int32) then
      DX8_number_20 l0 l1 l2 σ
    else
      chk (ckO σ 6 l0) <|
      bnd (DX8_wrong l0 (1 : Int32) σ) fun _ σ1 =>
      DX8_number_20 l0 l1 l2 σ1
  else
    DX8_number_20 l0 l1 l2 σ
theorem mX8_number (E : Ev) (l : Launch) {l0 : Nat} {l1 : Int32} {l2 : Int32} {σ : Sg} {r : Int32} {σ' : Sg} (h : DX8_number l0 l1 l2 σ = some (r, σ')) : Mt E l yX8_number cX8_number 4 (some .int) 9 0 0 [.ref (ad E l0), .int l1, .int l2] σ (some (.int r)) σ' := by
  refine Mt.ofX (by decide) (Nat.le_of_ble_eq_true rfl) (L0 := [some (.ref (ad E l0)), some (.int l1), some (.int l2), none]) (xEntN_ok [.ref (ad E l0), .int l1, .int l2] 4) (fun p e s m args below meth c C hr hn => ?_)
  unfold DX8_number at h
  refine x_aload_n (pc := 0) C dX8_number_0 rfl rfl ?_
  obtain ⟨k, h⟩ := chk_s h
  refine x_getI (pc := 1) C fX8_162 rfl k dX8_number_1 ?_
  refine x_if_ne (pc := 4) (tgt := 20) C dX8_number_4 (by decide) (fun q => ?_) (fun q => ?_)
  · rw [if_pos q] at h
    refine x_aload_n (pc := 7) C dX8_number_7 rfl rfl ?_
    obtain ⟨k, h⟩ := chk_s h
    refine x_getI (pc := 8) C fX8_131 rfl k dX8_number_8 ?_
    refine x_iconst (v := 1) (pc := 11) C dX8_number_11 (by decide) ?_
    refine x_icmp_eq (pc := 12) (tgt := 20) C dX8_number_12 (by decide) (fun q => ?_) (fun q => ?_)
    · rw [if_pos q] at h
      exact x_sub (tX8_number_20 C hr h) (xLe_s (xLe_s (xLe_s (xLe_n xLe_0))))
    · rw [if_neg q] at h
      refine x_aload_n (pc := 15) C dX8_number_15 rfl rfl ?_
      refine x_iconst (v := 1) (pc := 16) C dX8_number_16 (by decide) ?_
      obtain ⟨k, h⟩ := chk_s h
      have k2 := k
      obtain ⟨u0, σ1, k, h⟩ := bnd_s h
      refine x_callV0 (pc := 17) C (mX8_wrong E l k) cl6 k2 cX8_171 nX8_wrong sX8_wrong rfl rfl (Nat.le_of_ble_eq_true rfl) ⟨Nat.le_of_ble_eq_true rfl, Nat.le_of_ble_eq_true rfl, Nat.le_of_ble_eq_true rfl, Nat.le_of_ble_eq_true rfl⟩ dX8_number_17 ?_
      exact x_sub (tX8_number_20 C hr h) (xLe_s (xLe_s (xLe_s (xLe_n xLe_0))))
  · rw [if_neg q] at h
    exact x_sub (tX8_number_20 C hr h) (xLe_s (xLe_s (xLe_s (xLe_n xLe_0))))
def DX8_named_17 (l3 : Int32) (σ : Sg) : Option (Int32 × Sg) :=
  some (l3, σ)
theorem tX8_named_17 {r : Int32} {σ' : Sg} (C : Cx E p s m args meth c RX8 cX8_named 4) (hr : meth.sig.returnType = (some .int)) {l3 : Int32} {σ : Sg} (h : DX8_named_17 l3 σ = some (r, σ')) : Y E p l e (rmA 1 0 0) s m args below meth c (some (.int r)) σ' 0 0 4 0 0 σ 17 [none, none, none, some (.int l3)] [] := by
  unfold DX8_named_17 at h
  refine x_iload_n (pc := 17) C dX8_named_17 rfl rfl ?_
  cases h
  exact x_iret C hr dX8_named_18
def DX8_named_25 (σ : Sg) : Option (Int32 × Sg) :=
  some ((-1 : Int32), σ)
theorem tX8_named_25 {r : Int32} {σ' : Sg} (C : Cx E p s m args meth c RX8 cX8_named 4) (hr : meth.sig.returnType = (some .int)) {σ : Sg} (h : DX8_named_25  σ = some (r, σ')) : Y E p l e (rmA 1 0 0) s m args below meth c (some (.int r)) σ' 0 0 4 0 0 σ 25 [none, none, none, none] [] := by
  unfold DX8_named_25 at h
  refine x_iconst (v := -1) (pc := 25) C dX8_named_25 (by decide) ?_
  cases h
  exact x_iret C hr dX8_named_26
def DX8_named_2 : Nat → Nat → Nat → Int32 → Int32 → Sg → Option (Int32 × Sg)
  | 0, _, _, _, _, _ => none
  | n + 1, l0, l1, l2, l3, σ =>
    if l2 ≤ l3 then
      DX8_named_25 σ
    else
      chk (ckI σ l1 l3) <|
      chk (ckO σ 6 l0) <|
      if (aI σ l1 l3.toNatClampNeg) = (gI σ l0 28) then
        DX8_named_17 l3 σ
      else
        DX8_named_2 n l0 l1 l2 (l3 + (1 : Int32)) σ
theorem tX8_named_2 {r : Int32} {σ' : Sg} (C : Cx E p s m args meth c RX8 cX8_named 4) (hr : meth.sig.returnType = (some .int)) : ∀ (n : Nat) (l0 : Nat) (l1 : Nat) (l2 : Int32) (l3 : Int32) (σ : Sg) (h : DX8_named_2 n l0 l1 l2 l3 σ = some (r, σ')), Y E p l e (rmA 1 0 0) s m args below meth c (some (.int r)) σ' 0 0 4 0 0 σ 2 [some (.ref (ad E l0)), some (.ref (ad E l1)), some (.int l2), some (.int l3)] [] := by
  intro n
  induction n with
  | zero => intro l0 l1 l2 l3 σ h; cases h
  | succ n ih =>
    intro l0 l1 l2 l3 σ h
    unfold DX8_named_2 at h
    refine x_iload_n (pc := 2) C dX8_named_2 rfl rfl ?_
    refine x_iload_n (pc := 3) C dX8_named_3 rfl rfl ?_
    refine x_icmp_ge (pc := 4) (tgt := 25) C dX8_named_4 (by decide) (fun q => ?_) (fun q => ?_)
    · rw [if_pos q] at h
      exact x_sub (tX8_named_25 C hr h) (xLe_n (xLe_n (xLe_n (xLe_n xLe_0))))
    · rw [if_neg q] at h
      refine x_aload_n (pc := 7) C dX8_named_7 rfl rfl ?_
      refine x_iload_n (pc := 8) C dX8_named_8 rfl rfl ?_
      obtain ⟨k, h⟩ := chk_s h
      refine x_iald (pc := 9) C k dX8_named_9 ?_
      refine x_aload_n (pc := 10) C dX8_named_10 rfl rfl ?_
      obtain ⟨k, h⟩ := chk_s h
      refine x_getI (pc := 11) C fX8_138 rfl k dX8_named_11 ?_
      refine x_icmp_ne (pc := 14) (tgt := 19) C dX8_named_14 (by decide) (fun q => ?_) (fun q => ?_)
      · rw [if_pos q] at h
        exact x_sub (tX8_named_17 C hr h) (xLe_n (xLe_n (xLe_n (xLe_s xLe_0))))
      · rw [if_neg q] at h
        refine x_iinc (v := 1) (M := [some _, some _, some _, some _]) (pc := 19) C dX8_named_19 rfl (by decide) (by decide) rfl ?_
        refine x_goto (tgt := 2) (pc := 22) C dX8_named_22 (by decide) ?_
        exact x_sub (ih _ _ _ _ _ h) (xLe_s (xLe_s (xLe_s (xLe_s xLe_0))))
def DX8_named (l0 : Nat) (l1 : Nat) (l2 : Int32) (σ : Sg) : Option (Int32 × Sg) :=
  DX8_named_2 FU l0 l1 l2 (0 : Int32) σ
theorem mX8_named (E : Ev) (l : Launch) {l0 : Nat} {l1 : Nat} {l2 : Int32} {σ : Sg} {r : Int32} {σ' : Sg} (h : DX8_named l0 l1 l2 σ = some (r, σ')) : Mt E l yX8_named cX8_named 4 (some .int) 1 0 0 [.ref (ad E l0), .ref (ad E l1), .int l2] σ (some (.int r)) σ' := by
  refine Mt.ofX (by decide) (Nat.le_of_ble_eq_true rfl) (L0 := [some (.ref (ad E l0)), some (.ref (ad E l1)), some (.int l2), none]) (xEntN_ok [.ref (ad E l0), .ref (ad E l1), .int l2] 4) (fun p e s m args below meth c C hr hn => ?_)
  unfold DX8_named at h
  refine x_iconst (v := 0) (pc := 0) C dX8_named_0 (by decide) ?_
  refine x_istore_n (M := [some _, some _, some _, some _]) (pc := 1) C dX8_named_1 rfl (by decide) rfl ?_
  exact x_sub (tX8_named_2 C hr FU _ _ _ _ _ h) (xLe_s (xLe_s (xLe_s (xLe_s xLe_0))))
def DX8_newName_97 (l0 : Nat) (σ : Sg) : Option (Unit × Sg) :=
  chk (ckO σ 6 l0) <|
  bnd (DX8_goOn l0 σ) fun _ σ1 =>
  some ((), σ1)
theorem tX8_newName_97 {r : Unit} {σ' : Sg} (C : Cx E p s m args meth c RX8 cX8_newName 3) (hr : meth.sig.returnType = none) {l0 : Nat} {σ : Sg} (h : DX8_newName_97 l0 σ = some (r, σ')) : Y E p l e (rmA 9 0 0) s m args below meth c none σ' 0 0 3 0 0 σ 97 [some (.ref (ad E l0)), none, none] [] := by
  unfold DX8_newName_97 at h
  refine x_aload_n (pc := 97) C dX8_newName_97 rfl rfl ?_
  obtain ⟨k, h⟩ := chk_s h
  have k2 := k
  obtain ⟨u0, σ1, k, h⟩ := bnd_s h
  refine x_callV0 (pc := 98) C (mX8_goOn E l k) cl6 k2 cX8_175 nX8_goOn sX8_goOn rfl rfl (Nat.le_of_ble_eq_true rfl) ⟨Nat.le_of_ble_eq_true rfl, Nat.le_of_ble_eq_true rfl, Nat.le_of_ble_eq_true rfl, Nat.le_of_ble_eq_true rfl⟩ dX8_newName_98 ?_
  cases h
  exact x_vret C hr dX8_newName_101
def DX8_newName_83 (l0 : Nat) (l1 : Nat) (l2 : Int32) (σ : Sg) : Option (Unit × Sg) :=
  chk (ckO σ 6 l0) <|
  if (gI σ l0 29) = 0 then
    chk (ckO σ 6 l0) <|
    chk (ckI σ l1 l2) <|
    wlet (wI σ l1 l2.toNatClampNeg (gI σ l0 28)) fun σ1 =>
    DX8_newName_97 l0 σ1
  else
    DX8_newName_97 l0 σ
theorem tX8_newName_83 {r : Unit} {σ' : Sg} (C : Cx E p s m args meth c RX8 cX8_newName 3) (hr : meth.sig.returnType = none) {l0 : Nat} {l1 : Nat} {l2 : Int32} {σ : Sg} (h : DX8_newName_83 l0 l1 l2 σ = some (r, σ')) : Y E p l e (rmA 9 0 0) s m args below meth c none σ' 0 0 3 0 0 σ 83 [some (.ref (ad E l0)), some (.ref (ad E l1)), some (.int l2)] [] := by
  unfold DX8_newName_83 at h
  refine x_aload_n (pc := 83) C dX8_newName_83 rfl rfl ?_
  obtain ⟨k, h⟩ := chk_s h
  refine x_getI (pc := 84) C fX8_162 rfl k dX8_newName_84 ?_
  refine x_if_ne (pc := 87) (tgt := 97) C dX8_newName_87 (by decide) (fun q => ?_) (fun q => ?_)
  · rw [if_pos q] at h
    refine x_aload_n (pc := 90) C dX8_newName_90 rfl rfl ?_
    refine x_iload_n (pc := 91) C dX8_newName_91 rfl rfl ?_
    refine x_aload_n (pc := 92) C dX8_newName_92 rfl rfl ?_
    obtain ⟨k, h⟩ := chk_s h
    refine x_getI (pc := 93) C fX8_138 rfl k dX8_newName_93 ?_
    obtain ⟨k, h⟩ := chk_s h
    obtain ⟨σ1, e1, h⟩ := wlet_s h
    refine x_iast (pc := 96) C k dX8_newName_96 (x_eq e1 ?_)
    exact x_sub (tX8_newName_97 C hr h) (xLe_s (xLe_n (xLe_n xLe_0)))
  · rw [if_neg q] at h
    exact x_sub (tX8_newName_97 C hr h) (xLe_s (xLe_n (xLe_n xLe_0)))
def DX8_newName_78 (l0 : Nat) (l1 : Nat) (l2 : Int32) (σ : Sg) : Option (Unit × Sg) :=
  chk (ckO σ 6 l0) <|
  bnd (DX8_wrong l0 (3 : Int32) σ) fun _ σ1 =>
  DX8_newName_83 l0 l1 l2 σ1
theorem tX8_newName_78 {r : Unit} {σ' : Sg} (C : Cx E p s m args meth c RX8 cX8_newName 3) (hr : meth.sig.returnType = none) {l0 : Nat} {l1 : Nat} {l2 : Int32} {σ : Sg} (h : DX8_newName_78 l0 l1 l2 σ = some (r, σ')) : Y E p l e (rmA 9 0 0) s m args below meth c none σ' 0 0 3 0 0 σ 78 [some (.ref (ad E l0)), some (.ref (ad E l1)), some (.int l2)] [] := by
  unfold DX8_newName_78 at h
  refine x_aload_n (pc := 78) C dX8_newName_78 rfl rfl ?_
  refine x_iconst (v := 3) (pc := 79) C dX8_newName_79 (by decide) ?_
  obtain ⟨k, h⟩ := chk_s h
  have k2 := k
  obtain ⟨u0, σ1, k, h⟩ := bnd_s h
  refine x_callV0 (pc := 80) C (mX8_wrong E l k) cl6 k2 cX8_171 nX8_wrong sX8_wrong rfl rfl (Nat.le_of_ble_eq_true rfl) ⟨Nat.le_of_ble_eq_true rfl, Nat.le_of_ble_eq_true rfl, Nat.le_of_ble_eq_true rfl, Nat.le_of_ble_eq_true rfl⟩ dX8_newName_80 ?_
  exact x_sub (tX8_newName_83 C hr h) (xLe_s (xLe_s (xLe_s xLe_0)))
def DX8_newName_23 (l0 : Nat) (l1 : Nat) (l2 : Int32) (σ : Sg) : Option (Unit × Sg) :=
  chk (ckO σ 6 l0) <|
  if (gI σ l0 29) = 0 then
    chk (ckO σ 6 l0) <|
    chk (ckV (gR σ l0 34)) <|
    chk (ckO σ 6 l0) <|
    chk (ckO σ 6 l0) <|
    bnd (DX8_named l0 (gR σ l0 34) (gI σ l0 3) σ) fun v1 σ2 =>
    if v1 = (-1 : Int32) then
      chk (ckO σ2 6 l0) <|
      chk (ckV (gR σ2 l0 35)) <|
      chk (ckO σ2 6 l0) <|
      chk (ckO σ2 6 l0) <|
      bnd (DX8_named l0 (gR σ2 l0 35) (gI σ2 l0 4) σ2) fun v3 σ4 =>
      if v3 = (-1 : Int32) then
        chk (ckO σ4 6 l0) <|
        chk (ckV (gR σ4 l0 36)) <|
        chk (ckO σ4 6 l0) <|
        chk (ckO σ4 6 l0) <|
        bnd (DX8_named l0 (gR σ4 l0 36) (gI σ4 l0 9) σ4) fun v5 σ6 =>
        if v5 = (-1 : Int32) then
          DX8_newName_83 l0 l1 l2 σ6
        else
          DX8_newName_78 l0 l1 l2 σ6
      else
        DX8_newName_78 l0 l1 l2 σ4
    else
      DX8_newName_78 l0 l1 l2 σ2
  else
    DX8_newName_83 l0 l1 l2 σ
theorem tX8_newName_23 {r : Unit} {σ' : Sg} (C : Cx E p s m args meth c RX8 cX8_newName 3) (hr : meth.sig.returnType = none) {l0 : Nat} {l1 : Nat} {l2 : Int32} {σ : Sg} (h : DX8_newName_23 l0 l1 l2 σ = some (r, σ')) : Y E p l e (rmA 9 0 0) s m args below meth c none σ' 0 0 3 0 0 σ 23 [some (.ref (ad E l0)), some (.ref (ad E l1)), some (.int l2)] [] := by
  unfold DX8_newName_23 at h
  refine x_aload_n (pc := 23) C dX8_newName_23 rfl rfl ?_
  obtain ⟨k, h⟩ := chk_s h
  refine x_getI (pc := 24) C fX8_162 rfl k dX8_newName_24 ?_
  refine x_if_ne (pc := 27) (tgt := 83) C dX8_newName_27 (by decide) (fun q => ?_) (fun q => ?_)
  · rw [if_pos q] at h
    refine x_aload_n (pc := 30) C dX8_newName_30 rfl rfl ?_
    refine x_aload_n (pc := 31) C dX8_newName_31 rfl rfl ?_
    obtain ⟨k, h⟩ := chk_s h
    have k2 := k
    obtain ⟨k, h⟩ := chk_s h
    refine x_getR (pc := 32) C fX8_47 rfl k2 k dX8_newName_32 ?_
    refine x_aload_n (pc := 35) C dX8_newName_35 rfl rfl ?_
    obtain ⟨k, h⟩ := chk_s h
    refine x_getI (pc := 36) C fX8_182 rfl k dX8_newName_36 ?_
    obtain ⟨k, h⟩ := chk_s h
    have k2 := k
    obtain ⟨v1, σ2, k, h⟩ := bnd_s h
    refine x_callV1 (pc := 39) C (mX8_named E l k) cl6 k2 cX8_185 nX8_named sX8_named rfl rfl (Nat.le_of_ble_eq_true rfl) ⟨Nat.le_of_ble_eq_true rfl, Nat.le_of_ble_eq_true rfl, Nat.le_of_ble_eq_true rfl, Nat.le_of_ble_eq_true rfl⟩ dX8_newName_39 ?_
    refine x_iconst (v := -1) (pc := 42) C dX8_newName_42 (by decide) ?_
    refine x_icmp_ne (pc := 43) (tgt := 78) C dX8_newName_43 (by decide) (fun q => ?_) (fun q => ?_)
    · rw [if_pos q] at h
      refine x_aload_n (pc := 46) C dX8_newName_46 rfl rfl ?_
      refine x_aload_n (pc := 47) C dX8_newName_47 rfl rfl ?_
      obtain ⟨k, h⟩ := chk_s h
      have k2 := k
      obtain ⟨k, h⟩ := chk_s h
      refine x_getR (pc := 48) C fX8_50 rfl k2 k dX8_newName_48 ?_
      refine x_aload_n (pc := 51) C dX8_newName_51 rfl rfl ?_
      obtain ⟨k, h⟩ := chk_s h
      refine x_getI (pc := 52) C fX8_189 rfl k dX8_newName_52 ?_
      obtain ⟨k, h⟩ := chk_s h
      have k2 := k
      obtain ⟨v3, σ4, k, h⟩ := bnd_s h
      refine x_callV1 (pc := 55) C (mX8_named E l k) cl6 k2 cX8_185 nX8_named sX8_named rfl rfl (Nat.le_of_ble_eq_true rfl) ⟨Nat.le_of_ble_eq_true rfl, Nat.le_of_ble_eq_true rfl, Nat.le_of_ble_eq_true rfl, Nat.le_of_ble_eq_true rfl⟩ dX8_newName_55 ?_
      refine x_iconst (v := -1) (pc := 58) C dX8_newName_58 (by decide) ?_
      refine x_icmp_ne (pc := 59) (tgt := 78) C dX8_newName_59 (by decide) (fun q => ?_) (fun q => ?_)
      · rw [if_pos q] at h
        refine x_aload_n (pc := 62) C dX8_newName_62 rfl rfl ?_
        refine x_aload_n (pc := 63) C dX8_newName_63 rfl rfl ?_
        obtain ⟨k, h⟩ := chk_s h
        have k2 := k
        obtain ⟨k, h⟩ := chk_s h
        refine x_getR (pc := 64) C fX8_53 rfl k2 k dX8_newName_64 ?_
        refine x_aload_n (pc := 67) C dX8_newName_67 rfl rfl ?_
        obtain ⟨k, h⟩ := chk_s h
        refine x_getI (pc := 68) C fX8_192 rfl k dX8_newName_68 ?_
        obtain ⟨k, h⟩ := chk_s h
        have k2 := k
        obtain ⟨v5, σ6, k, h⟩ := bnd_s h
        refine x_callV1 (pc := 71) C (mX8_named E l k) cl6 k2 cX8_185 nX8_named sX8_named rfl rfl (Nat.le_of_ble_eq_true rfl) ⟨Nat.le_of_ble_eq_true rfl, Nat.le_of_ble_eq_true rfl, Nat.le_of_ble_eq_true rfl, Nat.le_of_ble_eq_true rfl⟩ dX8_newName_71 ?_
        refine x_iconst (v := -1) (pc := 74) C dX8_newName_74 (by decide) ?_
        refine x_icmp_eq (pc := 75) (tgt := 83) C dX8_newName_75 (by decide) (fun q => ?_) (fun q => ?_)
        · rw [if_pos q] at h
          exact x_sub (tX8_newName_83 C hr h) (xLe_s (xLe_s (xLe_s xLe_0)))
        · rw [if_neg q] at h
          exact x_sub (tX8_newName_78 C hr h) (xLe_s (xLe_s (xLe_s xLe_0)))
      · rw [if_neg q] at h
        exact x_sub (tX8_newName_78 C hr h) (xLe_s (xLe_s (xLe_s xLe_0)))
    · rw [if_neg q] at h
      exact x_sub (tX8_newName_78 C hr h) (xLe_s (xLe_s (xLe_s xLe_0)))
  · rw [if_neg q] at h
    exact x_sub (tX8_newName_83 C hr h) (xLe_s (xLe_s (xLe_s xLe_0)))
def DX8_newName (l0 : Nat) (l1 : Nat) (l2 : Int32) (σ : Sg) : Option (Unit × Sg) :=
  chk (ckO σ 6 l0) <|
  bnd (DX8_goOn l0 σ) fun _ σ1 =>
  chk (ckO σ1 6 l0) <|
  if (gI σ1 l0 29) = 0 then
    chk (ckO σ1 6 l0) <|
    bnd (DX8_isOther l0 σ1) fun v2 σ3 =>
    if v2 = 0 then
      chk (ckO σ3 6 l0) <|
      bnd (DX8_wrong l0 (1 : Int32) σ3) fun _ σ4 =>
      DX8_newName_23 l0 l1 l2 σ4
    else
      DX8_newName_23 l0 l1 l2 σ3
  else
    DX8_newName_23 l0 l1 l2 σ1
theorem mX8_newName (E : Ev) (l : Launch) {l0 : Nat} {l1 : Nat} {l2 : Int32} {σ : Sg} {r : Unit} {σ' : Sg} (h : DX8_newName l0 l1 l2 σ = some (r, σ')) : Mt E l yX8_newName cX8_newName 3 none 9 0 0 [.ref (ad E l0), .ref (ad E l1), .int l2] σ none σ' := by
  refine Mt.ofX (by decide) (Nat.le_of_ble_eq_true rfl) (L0 := [some (.ref (ad E l0)), some (.ref (ad E l1)), some (.int l2)]) (xEntN_ok [.ref (ad E l0), .ref (ad E l1), .int l2] 3) (fun p e s m args below meth c C hr hn => ?_)
  unfold DX8_newName at h
  refine x_aload_n (pc := 0) C dX8_newName_0 rfl rfl ?_
  obtain ⟨k, h⟩ := chk_s h
  have k2 := k
  obtain ⟨u0, σ1, k, h⟩ := bnd_s h
  refine x_callV0 (pc := 1) C (mX8_goOn E l k) cl6 k2 cX8_175 nX8_goOn sX8_goOn rfl rfl (Nat.le_of_ble_eq_true rfl) ⟨Nat.le_of_ble_eq_true rfl, Nat.le_of_ble_eq_true rfl, Nat.le_of_ble_eq_true rfl, Nat.le_of_ble_eq_true rfl⟩ dX8_newName_1 ?_
  refine x_aload_n (pc := 4) C dX8_newName_4 rfl rfl ?_
  obtain ⟨k, h⟩ := chk_s h
  refine x_getI (pc := 5) C fX8_162 rfl k dX8_newName_5 ?_
  refine x_if_ne (pc := 8) (tgt := 23) C dX8_newName_8 (by decide) (fun q => ?_) (fun q => ?_)
  · rw [if_pos q] at h
    refine x_aload_n (pc := 11) C dX8_newName_11 rfl rfl ?_
    obtain ⟨k, h⟩ := chk_s h
    have k2 := k
    obtain ⟨v2, σ3, k, h⟩ := bnd_s h
    refine x_callV1 (pc := 12) C (mX8_isOther E l k) cl6 k2 cX8_178 nX8_isOther sX8_isOther rfl rfl (Nat.le_of_ble_eq_true rfl) ⟨Nat.le_of_ble_eq_true rfl, Nat.le_of_ble_eq_true rfl, Nat.le_of_ble_eq_true rfl, Nat.le_of_ble_eq_true rfl⟩ dX8_newName_12 ?_
    refine x_if_ne (pc := 15) (tgt := 23) C dX8_newName_15 (by decide) (fun q => ?_) (fun q => ?_)
    · rw [if_pos q] at h
      refine x_aload_n (pc := 18) C dX8_newName_18 rfl rfl ?_
      refine x_iconst (v := 1) (pc := 19) C dX8_newName_19 (by decide) ?_
      obtain ⟨k, h⟩ := chk_s h
      have k2 := k
      obtain ⟨u0, σ4, k, h⟩ := bnd_s h
      refine x_callV0 (pc := 20) C (mX8_wrong E l k) cl6 k2 cX8_171 nX8_wrong sX8_wrong rfl rfl (Nat.le_of_ble_eq_true rfl) ⟨Nat.le_of_ble_eq_true rfl, Nat.le_of_ble_eq_true rfl, Nat.le_of_ble_eq_true rfl, Nat.le_of_ble_eq_true rfl⟩ dX8_newName_20 ?_
      exact x_sub (tX8_newName_23 C hr h) (xLe_s (xLe_s (xLe_s xLe_0)))
    · rw [if_neg q] at h
      exact x_sub (tX8_newName_23 C hr h) (xLe_s (xLe_s (xLe_s xLe_0)))
  · rw [if_neg q] at h
    exact x_sub (tX8_newName_23 C hr h) (xLe_s (xLe_s (xLe_s xLe_0)))
def DX8_seen_43 (l4 : Int32) (σ : Sg) : Option (Int32 × Sg) :=
  some (l4, σ)
theorem tX8_seen_43 {r : Int32} {σ' : Sg} (C : Cx E p s m args meth c RX8 cX8_seen 5) (hr : meth.sig.returnType = (some .int)) {l4 : Int32} {σ : Sg} (h : DX8_seen_43 l4 σ = some (r, σ')) : Y E p l e (rmA 2 0 0) s m args below meth c (some (.int r)) σ' 0 0 5 0 0 σ 43 [none, none, none, none, some (.int l4)] [] := by
  unfold DX8_seen_43 at h
  refine x_iload (pc := 43) C dX8_seen_43 rfl ?_
  cases h
  exact x_iret C hr dX8_seen_45
def DX8_seen_38 (l0 : Nat) (l4 : Int32) (σ : Sg) : Option (Int32 × Sg) :=
  chk (ckO σ 6 l0) <|
  bnd (DX8_wrong l0 (1 : Int32) σ) fun _ σ1 =>
  DX8_seen_43 l4 σ1
theorem tX8_seen_38 {r : Int32} {σ' : Sg} (C : Cx E p s m args meth c RX8 cX8_seen 5) (hr : meth.sig.returnType = (some .int)) {l0 : Nat} {l4 : Int32} {σ : Sg} (h : DX8_seen_38 l0 l4 σ = some (r, σ')) : Y E p l e (rmA 2 0 0) s m args below meth c (some (.int r)) σ' 0 0 5 0 0 σ 38 [some (.ref (ad E l0)), none, none, none, some (.int l4)] [] := by
  unfold DX8_seen_38 at h
  refine x_aload_n (pc := 38) C dX8_seen_38 rfl rfl ?_
  refine x_iconst (v := 1) (pc := 39) C dX8_seen_39 (by decide) ?_
  obtain ⟨k, h⟩ := chk_s h
  have k2 := k
  obtain ⟨u0, σ1, k, h⟩ := bnd_s h
  refine x_callV0 (pc := 40) C (mX8_wrong E l k) cl6 k2 cX8_171 nX8_wrong sX8_wrong rfl rfl (Nat.le_of_ble_eq_true rfl) ⟨Nat.le_of_ble_eq_true rfl, Nat.le_of_ble_eq_true rfl, Nat.le_of_ble_eq_true rfl, Nat.le_of_ble_eq_true rfl⟩ dX8_seen_40 ?_
  exact x_sub (tX8_seen_43 C hr h) (xLe_n (xLe_n (xLe_n (xLe_n (xLe_s xLe_0)))))
def DX8_seen_17 (l0 : Nat) (l3 : Int32) (s0 : Int32) (σ : Sg) : Option (Int32 × Sg) :=
  chk (ckO σ 6 l0) <|
  if (gI σ l0 29) = 0 then
    if s0 = (-1 : Int32) then
      DX8_seen_38 l0 s0 σ
    else
      if s0 = l3 then
        DX8_seen_38 l0 s0 σ
      else
        DX8_seen_43 s0 σ
  else
    DX8_seen_43 s0 σ
theorem tX8_seen_17 {r : Int32} {σ' : Sg} (C : Cx E p s m args meth c RX8 cX8_seen 5) (hr : meth.sig.returnType = (some .int)) {l0 : Nat} {l3 : Int32} {s0 : Int32} {σ : Sg} (h : DX8_seen_17 l0 l3 s0 σ = some (r, σ')) : Y E p l e (rmA 2 0 0) s m args below meth c (some (.int r)) σ' 0 0 5 0 0 σ 17 [some (.ref (ad E l0)), none, none, some (.int l3), none] [.int s0] := by
  unfold DX8_seen_17 at h
  refine x_istore (M := [some _, none, none, some _, some _]) (pc := 17) C dX8_seen_17 (by decide) rfl ?_
  refine x_aload_n (pc := 19) C dX8_seen_19 rfl rfl ?_
  obtain ⟨k, h⟩ := chk_s h
  refine x_getI (pc := 20) C fX8_162 rfl k dX8_seen_20 ?_
  refine x_if_ne (pc := 23) (tgt := 43) C dX8_seen_23 (by decide) (fun q => ?_) (fun q => ?_)
  · rw [if_pos q] at h
    refine x_iload (pc := 26) C dX8_seen_26 rfl ?_
    refine x_iconst (v := -1) (pc := 28) C dX8_seen_28 (by decide) ?_
    refine x_icmp_eq (pc := 29) (tgt := 38) C dX8_seen_29 (by decide) (fun q => ?_) (fun q => ?_)
    · rw [if_pos q] at h
      exact x_sub (tX8_seen_38 C hr h) (xLe_s (xLe_n (xLe_n (xLe_n (xLe_s xLe_0)))))
    · rw [if_neg q] at h
      refine x_iload (pc := 32) C dX8_seen_32 rfl ?_
      refine x_iload_n (pc := 34) C dX8_seen_34 rfl rfl ?_
      refine x_icmp_ne (pc := 35) (tgt := 43) C dX8_seen_35 (by decide) (fun q => ?_) (fun q => ?_)
      · rw [if_pos q] at h
        exact x_sub (tX8_seen_38 C hr h) (xLe_s (xLe_n (xLe_n (xLe_n (xLe_s xLe_0)))))
      · rw [if_neg q] at h
        exact x_sub (tX8_seen_43 C hr h) (xLe_n (xLe_n (xLe_n (xLe_n (xLe_s xLe_0)))))
  · rw [if_neg q] at h
    exact x_sub (tX8_seen_43 C hr h) (xLe_n (xLe_n (xLe_n (xLe_n (xLe_s xLe_0)))))
def DX8_seen (l0 : Nat) (l1 : Nat) (l2 : Int32) (l3 : Int32) (σ : Sg) : Option (Int32 × Sg) :=
  chk (ckO σ 6 l0) <|
  bnd (DX8_isOther l0 σ) fun v1 σ2 =>
  if v1 = 0 then
    DX8_seen_17 l0 l3 (-1 : Int32) σ2
  else
    chk (ckO σ2 6 l0) <|
    bnd (DX8_named l0 l1 l2 σ2) fun v3 σ4 =>
    DX8_seen_17 l0 l3 v3 σ4
theorem mX8_seen (E : Ev) (l : Launch) {l0 : Nat} {l1 : Nat} {l2 : Int32} {l3 : Int32} {σ : Sg} {r : Int32} {σ' : Sg} (h : DX8_seen l0 l1 l2 l3 σ = some (r, σ')) : Mt E l yX8_seen cX8_seen 5 (some .int) 2 0 0 [.ref (ad E l0), .ref (ad E l1), .int l2, .int l3] σ (some (.int r)) σ' := by
  refine Mt.ofX (by decide) (Nat.le_of_ble_eq_true rfl) (L0 := [some (.ref (ad E l0)), some (.ref (ad E l1)), some (.int l2), some (.int l3), none]) (xEntN_ok [.ref (ad E l0), .ref (ad E l1), .int l2, .int l3] 5) (fun p e s m args below meth c C hr hn => ?_)
  unfold DX8_seen at h
  refine x_aload_n (pc := 0) C dX8_seen_0 rfl rfl ?_
  obtain ⟨k, h⟩ := chk_s h
  have k2 := k
  obtain ⟨v1, σ2, k, h⟩ := bnd_s h
  refine x_callV1 (pc := 1) C (mX8_isOther E l k) cl6 k2 cX8_178 nX8_isOther sX8_isOther rfl rfl (Nat.le_of_ble_eq_true rfl) ⟨Nat.le_of_ble_eq_true rfl, Nat.le_of_ble_eq_true rfl, Nat.le_of_ble_eq_true rfl, Nat.le_of_ble_eq_true rfl⟩ dX8_seen_1 ?_
  refine x_if_eq (pc := 4) (tgt := 16) C dX8_seen_4 (by decide) (fun q => ?_) (fun q => ?_)
  · rw [if_pos q] at h
    refine x_iconst (v := -1) (pc := 16) C dX8_seen_16 (by decide) ?_
    exact x_sub (tX8_seen_17 C hr h) (xLe_s (xLe_n (xLe_n (xLe_s (xLe_n xLe_0)))))
  · rw [if_neg q] at h
    refine x_aload_n (pc := 7) C dX8_seen_7 rfl rfl ?_
    refine x_aload_n (pc := 8) C dX8_seen_8 rfl rfl ?_
    refine x_iload_n (pc := 9) C dX8_seen_9 rfl rfl ?_
    obtain ⟨k, h⟩ := chk_s h
    have k2 := k
    obtain ⟨v3, σ4, k, h⟩ := bnd_s h
    refine x_callV1 (pc := 10) C (mX8_named E l k) cl6 k2 cX8_185 nX8_named sX8_named rfl rfl (Nat.le_of_ble_eq_true rfl) ⟨Nat.le_of_ble_eq_true rfl, Nat.le_of_ble_eq_true rfl, Nat.le_of_ble_eq_true rfl, Nat.le_of_ble_eq_true rfl⟩ dX8_seen_10 ?_
    refine x_goto (tgt := 17) (pc := 13) C dX8_seen_13 (by decide) ?_
    exact x_sub (tX8_seen_17 C hr h) (xLe_s (xLe_n (xLe_n (xLe_s (xLe_n xLe_0)))))
def DX8_told (l0 : Nat) (l1 : Nat) (l2 : Int32) (l3 : Int32) (σ : Sg) : Option (Int32 × Sg) :=
  chk (ckO σ 6 l0) <|
  bnd (DX8_seen l0 l1 l2 l3 σ) fun v1 σ2 =>
  chk (ckO σ2 6 l0) <|
  bnd (DX8_goOn l0 σ2) fun _ σ3 =>
  some (v1, σ3)
theorem mX8_told (E : Ev) (l : Launch) {l0 : Nat} {l1 : Nat} {l2 : Int32} {l3 : Int32} {σ : Sg} {r : Int32} {σ' : Sg} (h : DX8_told l0 l1 l2 l3 σ = some (r, σ')) : Mt E l yX8_told cX8_told 5 (some .int) 9 0 0 [.ref (ad E l0), .ref (ad E l1), .int l2, .int l3] σ (some (.int r)) σ' := by
  refine Mt.ofX (by decide) (Nat.le_of_ble_eq_true rfl) (L0 := [some (.ref (ad E l0)), some (.ref (ad E l1)), some (.int l2), some (.int l3), none]) (xEntN_ok [.ref (ad E l0), .ref (ad E l1), .int l2, .int l3] 5) (fun p e s m args below meth c C hr hn => ?_)
  unfold DX8_told at h
  refine x_aload_n (pc := 0) C dX8_told_0 rfl rfl ?_
  refine x_aload_n (pc := 1) C dX8_told_1 rfl rfl ?_
  refine x_iload_n (pc := 2) C dX8_told_2 rfl rfl ?_
  refine x_iload_n (pc := 3) C dX8_told_3 rfl rfl ?_
  obtain ⟨k, h⟩ := chk_s h
  have k2 := k
  obtain ⟨v1, σ2, k, h⟩ := bnd_s h
  refine x_callV1 (pc := 4) C (mX8_seen E l k) cl6 k2 cX8_195 nX8_seen sX8_seen rfl rfl (Nat.le_of_ble_eq_true rfl) ⟨Nat.le_of_ble_eq_true rfl, Nat.le_of_ble_eq_true rfl, Nat.le_of_ble_eq_true rfl, Nat.le_of_ble_eq_true rfl⟩ dX8_told_4 ?_
  refine x_istore (M := [some _, some _, some _, some _, some _]) (pc := 7) C dX8_told_7 (by decide) rfl ?_
  refine x_aload_n (pc := 9) C dX8_told_9 rfl rfl ?_
  obtain ⟨k, h⟩ := chk_s h
  have k2 := k
  obtain ⟨u0, σ3, k, h⟩ := bnd_s h
  refine x_callV0 (pc := 10) C (mX8_goOn E l k) cl6 k2 cX8_175 nX8_goOn sX8_goOn rfl rfl (Nat.le_of_ble_eq_true rfl) ⟨Nat.le_of_ble_eq_true rfl, Nat.le_of_ble_eq_true rfl, Nat.le_of_ble_eq_true rfl, Nat.le_of_ble_eq_true rfl⟩ dX8_told_10 ?_
  refine x_iload (pc := 13) C dX8_told_13 rfl ?_
  cases h
  exact x_iret C hr dX8_told_15
def DX8_isEnd_32 (s0 : Int32) (σ : Sg) : Option (Int32 × Sg) :=
  chk (ck01 s0) <|
  some (s0, σ)
theorem tX8_isEnd_32 {r : Int32} {σ' : Sg} (C : Cx E p s m args meth c RX8 cX8_isEnd 1) (hr : meth.sig.returnType = (some .boolean)) {s0 : Int32} {σ : Sg} (h : DX8_isEnd_32 s0 σ = some (r, σ')) : Y E p l e (rmA 2 0 0) s m args below meth c (some (.int r)) σ' 0 0 1 0 0 σ 32 [none] [.int s0] := by
  unfold DX8_isEnd_32 at h
  obtain ⟨kz, h⟩ := chk_s h
  cases h
  exact x_zret C hr (nar_01 kz) dX8_isEnd_32
def DX8_isEnd_20 (l0 : Nat) (σ : Sg) : Option (Int32 × Sg) :=
  chk (ckO σ 6 l0) <|
  if (gI σ l0 29) = 0 then
    DX8_isEnd_32 (1 : Int32) σ
  else
    DX8_isEnd_32 (0 : Int32) σ
theorem tX8_isEnd_20 {r : Int32} {σ' : Sg} (C : Cx E p s m args meth c RX8 cX8_isEnd 1) (hr : meth.sig.returnType = (some .boolean)) {l0 : Nat} {σ : Sg} (h : DX8_isEnd_20 l0 σ = some (r, σ')) : Y E p l e (rmA 2 0 0) s m args below meth c (some (.int r)) σ' 0 0 1 0 0 σ 20 [some (.ref (ad E l0))] [] := by
  unfold DX8_isEnd_20 at h
  refine x_aload_n (pc := 20) C dX8_isEnd_20 rfl rfl ?_
  obtain ⟨k, h⟩ := chk_s h
  refine x_getI (pc := 21) C fX8_162 rfl k dX8_isEnd_21 ?_
  refine x_if_ne (pc := 24) (tgt := 31) C dX8_isEnd_24 (by decide) (fun q => ?_) (fun q => ?_)
  · rw [if_pos q] at h
    refine x_iconst (v := 1) (pc := 27) C dX8_isEnd_27 (by decide) ?_
    refine x_goto (tgt := 32) (pc := 28) C dX8_isEnd_28 (by decide) ?_
    exact x_sub (tX8_isEnd_32 C hr h) (xLe_n xLe_0)
  · rw [if_neg q] at h
    refine x_iconst (v := 0) (pc := 31) C dX8_isEnd_31 (by decide) ?_
    exact x_sub (tX8_isEnd_32 C hr h) (xLe_n xLe_0)
def DX8_isEnd (l0 : Nat) (σ : Sg) : Option (Int32 × Sg) :=
  chk (ckO σ 6 l0) <|
  if (gI σ l0 29) = 0 then
    chk (ckO σ 6 l0) <|
    if (gI σ l0 26) = (2 : Int32) then
      DX8_isEnd_20 l0 σ
    else
      chk (ckO σ 6 l0) <|
      bnd (DX8_wrong l0 (1 : Int32) σ) fun _ σ1 =>
      DX8_isEnd_20 l0 σ1
  else
    DX8_isEnd_20 l0 σ
theorem mX8_isEnd (E : Ev) (l : Launch) {l0 : Nat} {σ : Sg} {r : Int32} {σ' : Sg} (h : DX8_isEnd l0 σ = some (r, σ')) : Mt E l yX8_isEnd cX8_isEnd 1 (some .boolean) 2 0 0 [.ref (ad E l0)] σ (some (.int r)) σ' := by
  refine Mt.ofX (by decide) (Nat.le_of_ble_eq_true rfl) (L0 := [some (.ref (ad E l0))]) (xEntN_ok [.ref (ad E l0)] 1) (fun p e s m args below meth c C hr hn => ?_)
  unfold DX8_isEnd at h
  refine x_aload_n (pc := 0) C dX8_isEnd_0 rfl rfl ?_
  obtain ⟨k, h⟩ := chk_s h
  refine x_getI (pc := 1) C fX8_162 rfl k dX8_isEnd_1 ?_
  refine x_if_ne (pc := 4) (tgt := 20) C dX8_isEnd_4 (by decide) (fun q => ?_) (fun q => ?_)
  · rw [if_pos q] at h
    refine x_aload_n (pc := 7) C dX8_isEnd_7 rfl rfl ?_
    obtain ⟨k, h⟩ := chk_s h
    refine x_getI (pc := 8) C fX8_131 rfl k dX8_isEnd_8 ?_
    refine x_iconst (v := 2) (pc := 11) C dX8_isEnd_11 (by decide) ?_
    refine x_icmp_eq (pc := 12) (tgt := 20) C dX8_isEnd_12 (by decide) (fun q => ?_) (fun q => ?_)
    · rw [if_pos q] at h
      exact x_sub (tX8_isEnd_20 C hr h) (xLe_s xLe_0)
    · rw [if_neg q] at h
      refine x_aload_n (pc := 15) C dX8_isEnd_15 rfl rfl ?_
      refine x_iconst (v := 1) (pc := 16) C dX8_isEnd_16 (by decide) ?_
      obtain ⟨k, h⟩ := chk_s h
      have k2 := k
      obtain ⟨u0, σ1, k, h⟩ := bnd_s h
      refine x_callV0 (pc := 17) C (mX8_wrong E l k) cl6 k2 cX8_171 nX8_wrong sX8_wrong rfl rfl (Nat.le_of_ble_eq_true rfl) ⟨Nat.le_of_ble_eq_true rfl, Nat.le_of_ble_eq_true rfl, Nat.le_of_ble_eq_true rfl, Nat.le_of_ble_eq_true rfl⟩ dX8_isEnd_17 ?_
      exact x_sub (tX8_isEnd_20 C hr h) (xLe_s xLe_0)
  · rw [if_neg q] at h
    exact x_sub (tX8_isEnd_20 C hr h) (xLe_s xLe_0)
def DX8_isFull_20 (s0 : Int32) (σ : Sg) : Option (Int32 × Sg) :=
  chk (ck01 s0) <|
  some (s0, σ)
theorem tX8_isFull_20 {r : Int32} {σ' : Sg} (C : Cx E p s m args meth c RX8 cX8_isFull 3) (hr : meth.sig.returnType = (some .boolean)) {s0 : Int32} {σ : Sg} (h : DX8_isFull_20 s0 σ = some (r, σ')) : Y E p l e (rmA 2 0 0) s m args below meth c (some (.int r)) σ' 0 0 3 0 0 σ 20 [none, none, none] [.int s0] := by
  unfold DX8_isFull_20 at h
  obtain ⟨kz, h⟩ := chk_s h
  cases h
  exact x_zret C hr (nar_01 kz) dX8_isFull_20
def DX8_isFull_10 (l1 : Int32) (l2 : Int32) (σ : Sg) : Option (Int32 × Sg) :=
  if l1 = l2 then
    DX8_isFull_20 (1 : Int32) σ
  else
    DX8_isFull_20 (0 : Int32) σ
theorem tX8_isFull_10 {r : Int32} {σ' : Sg} (C : Cx E p s m args meth c RX8 cX8_isFull 3) (hr : meth.sig.returnType = (some .boolean)) {l1 : Int32} {l2 : Int32} {σ : Sg} (h : DX8_isFull_10 l1 l2 σ = some (r, σ')) : Y E p l e (rmA 2 0 0) s m args below meth c (some (.int r)) σ' 0 0 3 0 0 σ 10 [none, some (.int l1), some (.int l2)] [] := by
  unfold DX8_isFull_10 at h
  refine x_iload_n (pc := 10) C dX8_isFull_10 rfl rfl ?_
  refine x_iload_n (pc := 11) C dX8_isFull_11 rfl rfl ?_
  refine x_icmp_ne (pc := 12) (tgt := 19) C dX8_isFull_12 (by decide) (fun q => ?_) (fun q => ?_)
  · rw [if_pos q] at h
    refine x_iconst (v := 1) (pc := 15) C dX8_isFull_15 (by decide) ?_
    refine x_goto (tgt := 20) (pc := 16) C dX8_isFull_16 (by decide) ?_
    exact x_sub (tX8_isFull_20 C hr h) (xLe_n (xLe_n (xLe_n xLe_0)))
  · rw [if_neg q] at h
    refine x_iconst (v := 0) (pc := 19) C dX8_isFull_19 (by decide) ?_
    exact x_sub (tX8_isFull_20 C hr h) (xLe_n (xLe_n (xLe_n xLe_0)))
def DX8_isFull (l0 : Nat) (l1 : Int32) (l2 : Int32) (σ : Sg) : Option (Int32 × Sg) :=
  if l1 = l2 then
    chk (ckO σ 6 l0) <|
    bnd (DX8_wrong l0 (2 : Int32) σ) fun _ σ1 =>
    DX8_isFull_10 l1 l2 σ1
  else
    DX8_isFull_10 l1 l2 σ
theorem mX8_isFull (E : Ev) (l : Launch) {l0 : Nat} {l1 : Int32} {l2 : Int32} {σ : Sg} {r : Int32} {σ' : Sg} (h : DX8_isFull l0 l1 l2 σ = some (r, σ')) : Mt E l yX8_isFull cX8_isFull 3 (some .boolean) 2 0 0 [.ref (ad E l0), .int l1, .int l2] σ (some (.int r)) σ' := by
  refine Mt.ofX (by decide) (Nat.le_of_ble_eq_true rfl) (L0 := [some (.ref (ad E l0)), some (.int l1), some (.int l2)]) (xEntN_ok [.ref (ad E l0), .int l1, .int l2] 3) (fun p e s m args below meth c C hr hn => ?_)
  unfold DX8_isFull at h
  refine x_iload_n (pc := 0) C dX8_isFull_0 rfl rfl ?_
  refine x_iload_n (pc := 1) C dX8_isFull_1 rfl rfl ?_
  refine x_icmp_ne (pc := 2) (tgt := 10) C dX8_isFull_2 (by decide) (fun q => ?_) (fun q => ?_)
  · rw [if_pos q] at h
    refine x_aload_n (pc := 5) C dX8_isFull_5 rfl rfl ?_
    refine x_iconst (v := 2) (pc := 6) C dX8_isFull_6 (by decide) ?_
    obtain ⟨k, h⟩ := chk_s h
    have k2 := k
    obtain ⟨u0, σ1, k, h⟩ := bnd_s h
    refine x_callV0 (pc := 7) C (mX8_wrong E l k) cl6 k2 cX8_171 nX8_wrong sX8_wrong rfl rfl (Nat.le_of_ble_eq_true rfl) ⟨Nat.le_of_ble_eq_true rfl, Nat.le_of_ble_eq_true rfl, Nat.le_of_ble_eq_true rfl, Nat.le_of_ble_eq_true rfl⟩ dX8_isFull_7 ?_
    exact x_sub (tX8_isFull_10 C hr h) (xLe_n (xLe_s (xLe_s xLe_0)))
  · rw [if_neg q] at h
    exact x_sub (tX8_isFull_10 C hr h) (xLe_n (xLe_s (xLe_s xLe_0)))
def DX8_readLeg_94 (K48 : Nat → Int32 → Int32 → Int32 → Sg → Option (Unit × Sg)) (l0 : Nat) (l1 : Int32) (l2 : Int32) (l3 : Int32) (σ : Sg) : Option (Unit × Sg) :=
  K48 l0 l1 l2 (l3 + (1 : Int32)) σ
theorem tX8_readLeg_94 {r : Unit} {σ' : Sg} (C : Cx E p s m args meth c RX8 cX8_readLeg 4) (hr : meth.sig.returnType = none) {K48 : Nat → Int32 → Int32 → Int32 → Sg → Option (Unit × Sg)} (hK48 : ∀ (l0 : Nat) (l1 : Int32) (l2 : Int32) (l3 : Int32) (σ : Sg), K48 l0 l1 l2 l3 σ = some (r, σ') → Y E p l e (rmA 10 0 0) s m args below meth c none σ' 0 0 4 0 0 σ 48 [some (.ref (ad E l0)), some (.int l1), some (.int l2), some (.int l3)] []) {l0 : Nat} {l1 : Int32} {l2 : Int32} {l3 : Int32} {σ : Sg} (h : DX8_readLeg_94 K48 l0 l1 l2 l3 σ = some (r, σ')) : Y E p l e (rmA 10 0 0) s m args below meth c none σ' 0 0 4 0 0 σ 94 [some (.ref (ad E l0)), some (.int l1), some (.int l2), some (.int l3)] [] := by
  unfold DX8_readLeg_94 at h
  refine x_iinc (v := 1) (M := [some _, some _, some _, some _]) (pc := 94) C dX8_readLeg_94 rfl (by decide) (by decide) rfl ?_
  refine x_goto (tgt := 48) (pc := 97) C dX8_readLeg_97 (by decide) ?_
  exact x_sub (hK48 _ _ _ _ _ h) (xLe_s (xLe_s (xLe_s (xLe_s xLe_0))))
def DX8_readLeg_100 (l0 : Nat) (l1 : Int32) (l2 : Int32) (σ : Sg) : Option (Unit × Sg) :=
  chk (ckO σ 6 l0) <|
  bnd (DX8_goOn l0 σ) fun _ σ1 =>
  chk (ckO σ1 6 l0) <|
  bnd (DX8_number l0 (1 : Int32) (9999 : Int32) σ1) fun v2 σ3 =>
  chk (ckO σ3 6 l0) <|
  bnd (DX8_isEnd l0 σ3) fun v4 σ5 =>
  if v4 = 0 then
    some ((), σ5)
  else
    chk (ckO σ5 6 l0) <|
    chk (ckV (gR σ5 l0 12)) <|
    chk (ckO σ5 6 l0) <|
    chk (ckI σ5 (gR σ5 l0 12) ((3 : Int32) * (gI σ5 l0 5))) <|
    wlet (wI σ5 (gR σ5 l0 12) ((3 : Int32) * (gI σ5 l0 5)).toNatClampNeg l1) fun σ6 =>
    chk (ckO σ6 6 l0) <|
    chk (ckV (gR σ6 l0 12)) <|
    chk (ckO σ6 6 l0) <|
    chk (ckI σ6 (gR σ6 l0 12) (((3 : Int32) * (gI σ6 l0 5)) + (1 : Int32))) <|
    wlet (wI σ6 (gR σ6 l0 12) (((3 : Int32) * (gI σ6 l0 5)) + (1 : Int32)).toNatClampNeg l2) fun σ7 =>
    chk (ckO σ7 6 l0) <|
    chk (ckV (gR σ7 l0 12)) <|
    chk (ckO σ7 6 l0) <|
    chk (ckI σ7 (gR σ7 l0 12) (((3 : Int32) * (gI σ7 l0 5)) + (2 : Int32))) <|
    wlet (wI σ7 (gR σ7 l0 12) (((3 : Int32) * (gI σ7 l0 5)) + (2 : Int32)).toNatClampNeg v2) fun σ8 =>
    chk (ckO σ8 6 l0) <|
    chk (ckO σ8 6 l0) <|
    wlet (pI σ8 l0 5 ((gI σ8 l0 5) + (1 : Int32))) fun σ9 =>
    some ((), σ9)
theorem tX8_readLeg_100 {r : Unit} {σ' : Sg} (C : Cx E p s m args meth c RX8 cX8_readLeg 4) (hr : meth.sig.returnType = none) {l0 : Nat} {l1 : Int32} {l2 : Int32} {σ : Sg} (h : DX8_readLeg_100 l0 l1 l2 σ = some (r, σ')) : Y E p l e (rmA 10 0 0) s m args below meth c none σ' 0 0 4 0 0 σ 100 [some (.ref (ad E l0)), some (.int l1), some (.int l2), none] [] := by
  unfold DX8_readLeg_100 at h
  refine x_aload_n (pc := 100) C dX8_readLeg_100 rfl rfl ?_
  obtain ⟨k, h⟩ := chk_s h
  have k2 := k
  obtain ⟨u0, σ1, k, h⟩ := bnd_s h
  refine x_callV0 (pc := 101) C (mX8_goOn E l k) cl6 k2 cX8_175 nX8_goOn sX8_goOn rfl rfl (Nat.le_of_ble_eq_true rfl) ⟨Nat.le_of_ble_eq_true rfl, Nat.le_of_ble_eq_true rfl, Nat.le_of_ble_eq_true rfl, Nat.le_of_ble_eq_true rfl⟩ dX8_readLeg_101 ?_
  refine x_aload_n (pc := 104) C dX8_readLeg_104 rfl rfl ?_
  refine x_iconst (v := 1) (pc := 105) C dX8_readLeg_105 (by decide) ?_
  refine x_sipush (v := 9999) (pc := 106) C dX8_readLeg_106 (by decide) ?_
  obtain ⟨k, h⟩ := chk_s h
  have k2 := k
  obtain ⟨v2, σ3, k, h⟩ := bnd_s h
  refine x_callV1 (pc := 109) C (mX8_number E l k) cl6 k2 cX8_213 nX8_number sX8_number rfl rfl (Nat.le_of_ble_eq_true rfl) ⟨Nat.le_of_ble_eq_true rfl, Nat.le_of_ble_eq_true rfl, Nat.le_of_ble_eq_true rfl, Nat.le_of_ble_eq_true rfl⟩ dX8_readLeg_109 ?_
  refine x_istore_n (M := [some _, some _, some _, some _]) (pc := 112) C dX8_readLeg_112 rfl (by decide) rfl ?_
  refine x_aload_n (pc := 113) C dX8_readLeg_113 rfl rfl ?_
  obtain ⟨k, h⟩ := chk_s h
  have k2 := k
  obtain ⟨v4, σ5, k, h⟩ := bnd_s h
  refine x_callV1 (pc := 114) C (mX8_isEnd E l k) cl6 k2 cX8_217 nX8_isEnd sX8_isEnd rfl rfl (Nat.le_of_ble_eq_true rfl) ⟨Nat.le_of_ble_eq_true rfl, Nat.le_of_ble_eq_true rfl, Nat.le_of_ble_eq_true rfl, Nat.le_of_ble_eq_true rfl⟩ dX8_readLeg_114 ?_
  refine x_if_ne (pc := 117) (tgt := 121) C dX8_readLeg_117 (by decide) (fun q => ?_) (fun q => ?_)
  · rw [if_pos q] at h
    cases h
    exact x_vret C hr dX8_readLeg_120
  · rw [if_neg q] at h
    refine x_aload_n (pc := 121) C dX8_readLeg_121 rfl rfl ?_
    obtain ⟨k, h⟩ := chk_s h
    have k2 := k
    obtain ⟨k, h⟩ := chk_s h
    refine x_getR (pc := 122) C fX8_13 rfl k2 k dX8_readLeg_122 ?_
    refine x_iconst (v := 3) (pc := 125) C dX8_readLeg_125 (by decide) ?_
    refine x_aload_n (pc := 126) C dX8_readLeg_126 rfl rfl ?_
    obtain ⟨k, h⟩ := chk_s h
    refine x_getI (pc := 127) C fX8_199 rfl k dX8_readLeg_127 ?_
    refine x_imul (pc := 130) C dX8_readLeg_130 ?_
    refine x_iload_n (pc := 131) C dX8_readLeg_131 rfl rfl ?_
    obtain ⟨k, h⟩ := chk_s h
    obtain ⟨σ6, e1, h⟩ := wlet_s h
    refine x_iast (pc := 132) C k dX8_readLeg_132 (x_eq e1 ?_)
    refine x_aload_n (pc := 133) C dX8_readLeg_133 rfl rfl ?_
    obtain ⟨k, h⟩ := chk_s h
    have k2 := k
    obtain ⟨k, h⟩ := chk_s h
    refine x_getR (pc := 134) C fX8_13 rfl k2 k dX8_readLeg_134 ?_
    refine x_iconst (v := 3) (pc := 137) C dX8_readLeg_137 (by decide) ?_
    refine x_aload_n (pc := 138) C dX8_readLeg_138 rfl rfl ?_
    obtain ⟨k, h⟩ := chk_s h
    refine x_getI (pc := 139) C fX8_199 rfl k dX8_readLeg_139 ?_
    refine x_imul (pc := 142) C dX8_readLeg_142 ?_
    refine x_iconst (v := 1) (pc := 143) C dX8_readLeg_143 (by decide) ?_
    refine x_iadd (pc := 144) C dX8_readLeg_144 ?_
    refine x_iload_n (pc := 145) C dX8_readLeg_145 rfl rfl ?_
    obtain ⟨k, h⟩ := chk_s h
    obtain ⟨σ7, e1, h⟩ := wlet_s h
    refine x_iast (pc := 146) C k dX8_readLeg_146 (x_eq e1 ?_)
    refine x_aload_n (pc := 147) C dX8_readLeg_147 rfl rfl ?_
    obtain ⟨k, h⟩ := chk_s h
    have k2 := k
    obtain ⟨k, h⟩ := chk_s h
    refine x_getR (pc := 148) C fX8_13 rfl k2 k dX8_readLeg_148 ?_
    refine x_iconst (v := 3) (pc := 151) C dX8_readLeg_151 (by decide) ?_
    refine x_aload_n (pc := 152) C dX8_readLeg_152 rfl rfl ?_
    obtain ⟨k, h⟩ := chk_s h
    refine x_getI (pc := 153) C fX8_199 rfl k dX8_readLeg_153 ?_
    refine x_imul (pc := 156) C dX8_readLeg_156 ?_
    refine x_iconst (v := 2) (pc := 157) C dX8_readLeg_157 (by decide) ?_
    refine x_iadd (pc := 158) C dX8_readLeg_158 ?_
    refine x_iload_n (pc := 159) C dX8_readLeg_159 rfl rfl ?_
    obtain ⟨k, h⟩ := chk_s h
    obtain ⟨σ8, e1, h⟩ := wlet_s h
    refine x_iast (pc := 160) C k dX8_readLeg_160 (x_eq e1 ?_)
    refine x_aload_n (pc := 161) C dX8_readLeg_161 rfl rfl ?_
    refine x_dup (pc := 162) C dX8_readLeg_162 rfl ?_
    obtain ⟨k, h⟩ := chk_s h
    refine x_getI (pc := 163) C fX8_199 rfl k dX8_readLeg_163 ?_
    refine x_iconst (v := 1) (pc := 166) C dX8_readLeg_166 (by decide) ?_
    refine x_iadd (pc := 167) C dX8_readLeg_167 ?_
    obtain ⟨k, h⟩ := chk_s h
    obtain ⟨σ9, e1, h⟩ := wlet_s h
    refine x_putI (pc := 168) C pX8_199 rfl k dX8_readLeg_168 (x_eq e1 ?_)
    cases h
    exact x_vret C hr dX8_readLeg_171
def DX8_readLeg_48 : Nat → Nat → Int32 → Int32 → Int32 → Sg → Option (Unit × Sg)
  | 0, _, _, _, _, _ => none
  | n + 1, l0, l1, l2, l3, σ =>
    chk (ckO σ 6 l0) <|
    if (gI σ l0 29) = 0 then
      chk (ckO σ 6 l0) <|
      if (gI σ l0 5) ≤ l3 then
        DX8_readLeg_100 l0 l1 l2 σ
      else
        chk (ckO σ 6 l0) <|
        chk (ckV (gR σ l0 12)) <|
        chk (ckI σ (gR σ l0 12) ((3 : Int32) * l3)) <|
        chk (ckO σ 6 l0) <|
        chk (ckV (gR σ l0 12)) <|
        chk (ckI σ (gR σ l0 12) (((3 : Int32) * l3) + (1 : Int32))) <|
        bnd (DX8_arePair (aI σ (gR σ l0 12) ((3 : Int32) * l3).toNatClampNeg) (aI σ (gR σ l0 12) (((3 : Int32) * l3) + (1 : Int32)).toNatClampNeg) l1 l2 σ) fun v1 σ2 =>
        if v1 = 0 then
          DX8_readLeg_94 (DX8_readLeg_48 n) l0 l1 l2 l3 σ2
        else
          chk (ckO σ2 6 l0) <|
          bnd (DX8_wrong l0 (3 : Int32) σ2) fun _ σ3 =>
          DX8_readLeg_94 (DX8_readLeg_48 n) l0 l1 l2 l3 σ3
    else
      DX8_readLeg_100 l0 l1 l2 σ
theorem tX8_readLeg_48 {r : Unit} {σ' : Sg} (C : Cx E p s m args meth c RX8 cX8_readLeg 4) (hr : meth.sig.returnType = none) : ∀ (n : Nat) (l0 : Nat) (l1 : Int32) (l2 : Int32) (l3 : Int32) (σ : Sg) (h : DX8_readLeg_48 n l0 l1 l2 l3 σ = some (r, σ')), Y E p l e (rmA 10 0 0) s m args below meth c none σ' 0 0 4 0 0 σ 48 [some (.ref (ad E l0)), some (.int l1), some (.int l2), some (.int l3)] [] := by
  intro n
  induction n with
  | zero => intro l0 l1 l2 l3 σ h; cases h
  | succ n ih =>
    intro l0 l1 l2 l3 σ h
    unfold DX8_readLeg_48 at h
    refine x_aload_n (pc := 48) C dX8_readLeg_48 rfl rfl ?_
    obtain ⟨k, h⟩ := chk_s h
    refine x_getI (pc := 49) C fX8_162 rfl k dX8_readLeg_49 ?_
    refine x_if_ne (pc := 52) (tgt := 100) C dX8_readLeg_52 (by decide) (fun q => ?_) (fun q => ?_)
    · rw [if_pos q] at h
      refine x_iload_n (pc := 55) C dX8_readLeg_55 rfl rfl ?_
      refine x_aload_n (pc := 56) C dX8_readLeg_56 rfl rfl ?_
      obtain ⟨k, h⟩ := chk_s h
      refine x_getI (pc := 57) C fX8_199 rfl k dX8_readLeg_57 ?_
      refine x_icmp_ge (pc := 60) (tgt := 100) C dX8_readLeg_60 (by decide) (fun q => ?_) (fun q => ?_)
      · rw [if_pos q] at h
        exact x_sub (tX8_readLeg_100 C hr h) (xLe_s (xLe_s (xLe_s (xLe_n xLe_0))))
      · rw [if_neg q] at h
        refine x_aload_n (pc := 63) C dX8_readLeg_63 rfl rfl ?_
        obtain ⟨k, h⟩ := chk_s h
        have k2 := k
        obtain ⟨k, h⟩ := chk_s h
        refine x_getR (pc := 64) C fX8_13 rfl k2 k dX8_readLeg_64 ?_
        refine x_iconst (v := 3) (pc := 67) C dX8_readLeg_67 (by decide) ?_
        refine x_iload_n (pc := 68) C dX8_readLeg_68 rfl rfl ?_
        refine x_imul (pc := 69) C dX8_readLeg_69 ?_
        obtain ⟨k, h⟩ := chk_s h
        refine x_iald (pc := 70) C k dX8_readLeg_70 ?_
        refine x_aload_n (pc := 71) C dX8_readLeg_71 rfl rfl ?_
        obtain ⟨k, h⟩ := chk_s h
        have k2 := k
        obtain ⟨k, h⟩ := chk_s h
        refine x_getR (pc := 72) C fX8_13 rfl k2 k dX8_readLeg_72 ?_
        refine x_iconst (v := 3) (pc := 75) C dX8_readLeg_75 (by decide) ?_
        refine x_iload_n (pc := 76) C dX8_readLeg_76 rfl rfl ?_
        refine x_imul (pc := 77) C dX8_readLeg_77 ?_
        refine x_iconst (v := 1) (pc := 78) C dX8_readLeg_78 (by decide) ?_
        refine x_iadd (pc := 79) C dX8_readLeg_79 ?_
        obtain ⟨k, h⟩ := chk_s h
        refine x_iald (pc := 80) C k dX8_readLeg_80 ?_
        refine x_iload_n (pc := 81) C dX8_readLeg_81 rfl rfl ?_
        refine x_iload_n (pc := 82) C dX8_readLeg_82 rfl rfl ?_
        obtain ⟨v1, σ2, k, h⟩ := bnd_s h
        refine x_callS1 (pc := 83) C (mX8_arePair E l k) cX8_209 zX8_arePair rfl rfl (Nat.le_of_ble_eq_true rfl) ⟨Nat.le_of_ble_eq_true rfl, Nat.le_of_ble_eq_true rfl, Nat.le_of_ble_eq_true rfl, Nat.le_of_ble_eq_true rfl⟩ dX8_readLeg_83 ?_
        refine x_if_eq (pc := 86) (tgt := 94) C dX8_readLeg_86 (by decide) (fun q => ?_) (fun q => ?_)
        · rw [if_pos q] at h
          exact x_sub (tX8_readLeg_94 C hr ih h) (xLe_s (xLe_s (xLe_s (xLe_s xLe_0))))
        · rw [if_neg q] at h
          refine x_aload_n (pc := 89) C dX8_readLeg_89 rfl rfl ?_
          refine x_iconst (v := 3) (pc := 90) C dX8_readLeg_90 (by decide) ?_
          obtain ⟨k, h⟩ := chk_s h
          have k2 := k
          obtain ⟨u0, σ3, k, h⟩ := bnd_s h
          refine x_callV0 (pc := 91) C (mX8_wrong E l k) cl6 k2 cX8_171 nX8_wrong sX8_wrong rfl rfl (Nat.le_of_ble_eq_true rfl) ⟨Nat.le_of_ble_eq_true rfl, Nat.le_of_ble_eq_true rfl, Nat.le_of_ble_eq_true rfl, Nat.le_of_ble_eq_true rfl⟩ dX8_readLeg_91 ?_
          exact x_sub (tX8_readLeg_94 C hr ih h) (xLe_s (xLe_s (xLe_s (xLe_s xLe_0))))
    · rw [if_neg q] at h
      exact x_sub (tX8_readLeg_100 C hr h) (xLe_s (xLe_s (xLe_s (xLe_n xLe_0))))
def DX8_readLeg (l0 : Nat) (σ : Sg) : Option (Unit × Sg) :=
  chk (ckO σ 6 l0) <|
  chk (ckO σ 6 l0) <|
  bnd (DX8_isFull l0 (gI σ l0 5) (24 : Int32) σ) fun v1 σ2 =>
  if v1 = 0 then
    chk (ckO σ2 6 l0) <|
    bnd (DX8_goOn l0 σ2) fun _ σ3 =>
    chk (ckO σ3 6 l0) <|
    chk (ckV (gR σ3 l0 34)) <|
    chk (ckO σ3 6 l0) <|
    chk (ckO σ3 6 l0) <|
    bnd (DX8_told l0 (gR σ3 l0 34) (gI σ3 l0 3) (-1 : Int32) σ3) fun v4 σ5 =>
    chk (ckO σ5 6 l0) <|
    chk (ckV (gR σ5 l0 34)) <|
    chk (ckO σ5 6 l0) <|
    chk (ckO σ5 6 l0) <|
    bnd (DX8_seen l0 (gR σ5 l0 34) (gI σ5 l0 3) v4 σ5) fun v6 σ7 =>
    DX8_readLeg_48 FU l0 v4 v6 (0 : Int32) σ7
  else
    some ((), σ2)
theorem mX8_readLeg (E : Ev) (l : Launch) {l0 : Nat} {σ : Sg} {r : Unit} {σ' : Sg} (h : DX8_readLeg l0 σ = some (r, σ')) : Mt E l yX8_readLeg cX8_readLeg 4 none 10 0 0 [.ref (ad E l0)] σ none σ' := by
  refine Mt.ofX (by decide) (Nat.le_of_ble_eq_true rfl) (L0 := [some (.ref (ad E l0)), none, none, none]) (xEntN_ok [.ref (ad E l0)] 4) (fun p e s m args below meth c C hr hn => ?_)
  unfold DX8_readLeg at h
  refine x_aload_n (pc := 0) C dX8_readLeg_0 rfl rfl ?_
  refine x_aload_n (pc := 1) C dX8_readLeg_1 rfl rfl ?_
  obtain ⟨k, h⟩ := chk_s h
  refine x_getI (pc := 2) C fX8_199 rfl k dX8_readLeg_2 ?_
  refine x_bipush (v := 24) (pc := 5) C dX8_readLeg_5 (by decide) ?_
  obtain ⟨k, h⟩ := chk_s h
  have k2 := k
  obtain ⟨v1, σ2, k, h⟩ := bnd_s h
  refine x_callV1 (pc := 7) C (mX8_isFull E l k) cl6 k2 cX8_202 nX8_isFull sX8_isFull rfl rfl (Nat.le_of_ble_eq_true rfl) ⟨Nat.le_of_ble_eq_true rfl, Nat.le_of_ble_eq_true rfl, Nat.le_of_ble_eq_true rfl, Nat.le_of_ble_eq_true rfl⟩ dX8_readLeg_7 ?_
  refine x_if_eq (pc := 10) (tgt := 14) C dX8_readLeg_10 (by decide) (fun q => ?_) (fun q => ?_)
  · rw [if_pos q] at h
    refine x_aload_n (pc := 14) C dX8_readLeg_14 rfl rfl ?_
    obtain ⟨k, h⟩ := chk_s h
    have k2 := k
    obtain ⟨u0, σ3, k, h⟩ := bnd_s h
    refine x_callV0 (pc := 15) C (mX8_goOn E l k) cl6 k2 cX8_175 nX8_goOn sX8_goOn rfl rfl (Nat.le_of_ble_eq_true rfl) ⟨Nat.le_of_ble_eq_true rfl, Nat.le_of_ble_eq_true rfl, Nat.le_of_ble_eq_true rfl, Nat.le_of_ble_eq_true rfl⟩ dX8_readLeg_15 ?_
    refine x_aload_n (pc := 18) C dX8_readLeg_18 rfl rfl ?_
    refine x_aload_n (pc := 19) C dX8_readLeg_19 rfl rfl ?_
    obtain ⟨k, h⟩ := chk_s h
    have k2 := k
    obtain ⟨k, h⟩ := chk_s h
    refine x_getR (pc := 20) C fX8_47 rfl k2 k dX8_readLeg_20 ?_
    refine x_aload_n (pc := 23) C dX8_readLeg_23 rfl rfl ?_
    obtain ⟨k, h⟩ := chk_s h
    refine x_getI (pc := 24) C fX8_182 rfl k dX8_readLeg_24 ?_
    refine x_iconst (v := -1) (pc := 27) C dX8_readLeg_27 (by decide) ?_
    obtain ⟨k, h⟩ := chk_s h
    have k2 := k
    obtain ⟨v4, σ5, k, h⟩ := bnd_s h
    refine x_callV1 (pc := 28) C (mX8_told E l k) cl6 k2 cX8_206 nX8_told sX8_told rfl rfl (Nat.le_of_ble_eq_true rfl) ⟨Nat.le_of_ble_eq_true rfl, Nat.le_of_ble_eq_true rfl, Nat.le_of_ble_eq_true rfl, Nat.le_of_ble_eq_true rfl⟩ dX8_readLeg_28 ?_
    refine x_istore_n (M := [some _, some _, none, none]) (pc := 31) C dX8_readLeg_31 rfl (by decide) rfl ?_
    refine x_aload_n (pc := 32) C dX8_readLeg_32 rfl rfl ?_
    refine x_aload_n (pc := 33) C dX8_readLeg_33 rfl rfl ?_
    obtain ⟨k, h⟩ := chk_s h
    have k2 := k
    obtain ⟨k, h⟩ := chk_s h
    refine x_getR (pc := 34) C fX8_47 rfl k2 k dX8_readLeg_34 ?_
    refine x_aload_n (pc := 37) C dX8_readLeg_37 rfl rfl ?_
    obtain ⟨k, h⟩ := chk_s h
    refine x_getI (pc := 38) C fX8_182 rfl k dX8_readLeg_38 ?_
    refine x_iload_n (pc := 41) C dX8_readLeg_41 rfl rfl ?_
    obtain ⟨k, h⟩ := chk_s h
    have k2 := k
    obtain ⟨v6, σ7, k, h⟩ := bnd_s h
    refine x_callV1 (pc := 42) C (mX8_seen E l k) cl6 k2 cX8_195 nX8_seen sX8_seen rfl rfl (Nat.le_of_ble_eq_true rfl) ⟨Nat.le_of_ble_eq_true rfl, Nat.le_of_ble_eq_true rfl, Nat.le_of_ble_eq_true rfl, Nat.le_of_ble_eq_true rfl⟩ dX8_readLeg_42 ?_
    refine x_istore_n (M := [some _, some _, some _, none]) (pc := 45) C dX8_readLeg_45 rfl (by decide) rfl ?_
    refine x_iconst (v := 0) (pc := 46) C dX8_readLeg_46 (by decide) ?_
    refine x_istore_n (M := [some _, some _, some _, some _]) (pc := 47) C dX8_readLeg_47 rfl (by decide) rfl ?_
    exact x_sub (tX8_readLeg_48 C hr FU _ _ _ _ _ h) (xLe_s (xLe_s (xLe_s (xLe_s xLe_0))))
  · rw [if_neg q] at h
    cases h
    exact x_vret C hr dX8_readLeg_13
def DX8_readBand_44 (l0 : Nat) (s0 : Nat) (s1 : Int32) (σ : Sg) : Option (Unit × Sg) :=
  chk (ckO σ 6 s0) <|
  bnd (DX8_number s0 s1 (9999 : Int32) σ) fun v1 σ2 =>
  chk (ckO σ2 6 l0) <|
  bnd (DX8_number l0 (1 : Int32) (999 : Int32) σ2) fun v3 σ4 =>
  chk (ckO σ4 6 l0) <|
  bnd (DX8_isEnd l0 σ4) fun v5 σ6 =>
  if v5 = 0 then
    some ((), σ6)
  else
    chk (ckO σ6 6 l0) <|
    chk (ckV (gR σ6 l0 13)) <|
    chk (ckO σ6 6 l0) <|
    chk (ckI σ6 (gR σ6 l0 13) ((2 : Int32) * (gI σ6 l0 6))) <|
    wlet (wI σ6 (gR σ6 l0 13) ((2 : Int32) * (gI σ6 l0 6)).toNatClampNeg v1) fun σ7 =>
    chk (ckO σ7 6 l0) <|
    chk (ckV (gR σ7 l0 13)) <|
    chk (ckO σ7 6 l0) <|
    chk (ckI σ7 (gR σ7 l0 13) (((2 : Int32) * (gI σ7 l0 6)) + (1 : Int32))) <|
    wlet (wI σ7 (gR σ7 l0 13) (((2 : Int32) * (gI σ7 l0 6)) + (1 : Int32)).toNatClampNeg v3) fun σ8 =>
    chk (ckO σ8 6 l0) <|
    chk (ckO σ8 6 l0) <|
    wlet (pI σ8 l0 6 ((gI σ8 l0 6) + (1 : Int32))) fun σ9 =>
    some ((), σ9)
theorem tX8_readBand_44 {r : Unit} {σ' : Sg} (C : Cx E p s m args meth c RX8 cX8_readBand 3) (hr : meth.sig.returnType = none) {l0 : Nat} {s0 : Nat} {s1 : Int32} {σ : Sg} (h : DX8_readBand_44 l0 s0 s1 σ = some (r, σ')) : Y E p l e (rmA 10 0 0) s m args below meth c none σ' 0 0 3 0 0 σ 44 [some (.ref (ad E l0)), none, none] [.int s1, .ref (ad E s0)] := by
  unfold DX8_readBand_44 at h
  refine x_sipush (v := 9999) (pc := 44) C dX8_readBand_44 (by decide) ?_
  obtain ⟨k, h⟩ := chk_s h
  have k2 := k
  obtain ⟨v1, σ2, k, h⟩ := bnd_s h
  refine x_callV1 (pc := 47) C (mX8_number E l k) cl6 k2 cX8_213 nX8_number sX8_number rfl rfl (Nat.le_of_ble_eq_true rfl) ⟨Nat.le_of_ble_eq_true rfl, Nat.le_of_ble_eq_true rfl, Nat.le_of_ble_eq_true rfl, Nat.le_of_ble_eq_true rfl⟩ dX8_readBand_47 ?_
  refine x_istore_n (M := [some _, some _, none]) (pc := 50) C dX8_readBand_50 rfl (by decide) rfl ?_
  refine x_aload_n (pc := 51) C dX8_readBand_51 rfl rfl ?_
  refine x_iconst (v := 1) (pc := 52) C dX8_readBand_52 (by decide) ?_
  refine x_sipush (v := 999) (pc := 53) C dX8_readBand_53 (by decide) ?_
  obtain ⟨k, h⟩ := chk_s h
  have k2 := k
  obtain ⟨v3, σ4, k, h⟩ := bnd_s h
  refine x_callV1 (pc := 56) C (mX8_number E l k) cl6 k2 cX8_213 nX8_number sX8_number rfl rfl (Nat.le_of_ble_eq_true rfl) ⟨Nat.le_of_ble_eq_true rfl, Nat.le_of_ble_eq_true rfl, Nat.le_of_ble_eq_true rfl, Nat.le_of_ble_eq_true rfl⟩ dX8_readBand_56 ?_
  refine x_istore_n (M := [some _, some _, some _]) (pc := 59) C dX8_readBand_59 rfl (by decide) rfl ?_
  refine x_aload_n (pc := 60) C dX8_readBand_60 rfl rfl ?_
  obtain ⟨k, h⟩ := chk_s h
  have k2 := k
  obtain ⟨v5, σ6, k, h⟩ := bnd_s h
  refine x_callV1 (pc := 61) C (mX8_isEnd E l k) cl6 k2 cX8_217 nX8_isEnd sX8_isEnd rfl rfl (Nat.le_of_ble_eq_true rfl) ⟨Nat.le_of_ble_eq_true rfl, Nat.le_of_ble_eq_true rfl, Nat.le_of_ble_eq_true rfl, Nat.le_of_ble_eq_true rfl⟩ dX8_readBand_61 ?_
  refine x_if_ne (pc := 64) (tgt := 68) C dX8_readBand_64 (by decide) (fun q => ?_) (fun q => ?_)
  · rw [if_pos q] at h
    cases h
    exact x_vret C hr dX8_readBand_67
  · rw [if_neg q] at h
    refine x_aload_n (pc := 68) C dX8_readBand_68 rfl rfl ?_
    obtain ⟨k, h⟩ := chk_s h
    have k2 := k
    obtain ⟨k, h⟩ := chk_s h
    refine x_getR (pc := 69) C fX8_16 rfl k2 k dX8_readBand_69 ?_
    refine x_iconst (v := 2) (pc := 72) C dX8_readBand_72 (by decide) ?_
    refine x_aload_n (pc := 73) C dX8_readBand_73 rfl rfl ?_
    obtain ⟨k, h⟩ := chk_s h
    refine x_getI (pc := 74) C fX8_220 rfl k dX8_readBand_74 ?_
    refine x_imul (pc := 77) C dX8_readBand_77 ?_
    refine x_iload_n (pc := 78) C dX8_readBand_78 rfl rfl ?_
    obtain ⟨k, h⟩ := chk_s h
    obtain ⟨σ7, e1, h⟩ := wlet_s h
    refine x_iast (pc := 79) C k dX8_readBand_79 (x_eq e1 ?_)
    refine x_aload_n (pc := 80) C dX8_readBand_80 rfl rfl ?_
    obtain ⟨k, h⟩ := chk_s h
    have k2 := k
    obtain ⟨k, h⟩ := chk_s h
    refine x_getR (pc := 81) C fX8_16 rfl k2 k dX8_readBand_81 ?_
    refine x_iconst (v := 2) (pc := 84) C dX8_readBand_84 (by decide) ?_
    refine x_aload_n (pc := 85) C dX8_readBand_85 rfl rfl ?_
    obtain ⟨k, h⟩ := chk_s h
    refine x_getI (pc := 86) C fX8_220 rfl k dX8_readBand_86 ?_
    refine x_imul (pc := 89) C dX8_readBand_89 ?_
    refine x_iconst (v := 1) (pc := 90) C dX8_readBand_90 (by decide) ?_
    refine x_iadd (pc := 91) C dX8_readBand_91 ?_
    refine x_iload_n (pc := 92) C dX8_readBand_92 rfl rfl ?_
    obtain ⟨k, h⟩ := chk_s h
    obtain ⟨σ8, e1, h⟩ := wlet_s h
    refine x_iast (pc := 93) C k dX8_readBand_93 (x_eq e1 ?_)
    refine x_aload_n (pc := 94) C dX8_readBand_94 rfl rfl ?_
    refine x_dup (pc := 95) C dX8_readBand_95 rfl ?_
    obtain ⟨k, h⟩ := chk_s h
    refine x_getI (pc := 96) C fX8_220 rfl k dX8_readBand_96 ?_
    refine x_iconst (v := 1) (pc := 99) C dX8_readBand_99 (by decide) ?_
    refine x_iadd (pc := 100) C dX8_readBand_100 ?_
    obtain ⟨k, h⟩ := chk_s h
    obtain ⟨σ9, e1, h⟩ := wlet_s h
    refine x_putI (pc := 101) C pX8_220 rfl k dX8_readBand_101 (x_eq e1 ?_)
    cases h
    exact x_vret C hr dX8_readBand_104
def DX8_readBand (l0 : Nat) (σ : Sg) : Option (Unit × Sg) :=
  chk (ckO σ 6 l0) <|
  chk (ckO σ 6 l0) <|
  bnd (DX8_isFull l0 (gI σ l0 6) (5 : Int32) σ) fun v1 σ2 =>
  if v1 = 0 then
    chk (ckO σ2 6 l0) <|
    bnd (DX8_goOn l0 σ2) fun _ σ3 =>
    chk (ckO σ3 6 l0) <|
    if (gI σ3 l0 6) = 0 then
      DX8_readBand_44 l0 l0 (1 : Int32) σ3
    else
      chk (ckO σ3 6 l0) <|
      chk (ckV (gR σ3 l0 13)) <|
      chk (ckO σ3 6 l0) <|
      chk (ckI σ3 (gR σ3 l0 13) (((2 : Int32) * (gI σ3 l0 6)) - (2 : Int32))) <|
      DX8_readBand_44 l0 l0 ((aI σ3 (gR σ3 l0 13) (((2 : Int32) * (gI σ3 l0 6)) - (2 : Int32)).toNatClampNeg) + (1 : Int32)) σ3
  else
    some ((), σ2)
theorem mX8_readBand (E : Ev) (l : Launch) {l0 : Nat} {σ : Sg} {r : Unit} {σ' : Sg} (h : DX8_readBand l0 σ = some (r, σ')) : Mt E l yX8_readBand cX8_readBand 3 none 10 0 0 [.ref (ad E l0)] σ none σ' := by
  refine Mt.ofX (by decide) (Nat.le_of_ble_eq_true rfl) (L0 := [some (.ref (ad E l0)), none, none]) (xEntN_ok [.ref (ad E l0)] 3) (fun p e s m args below meth c C hr hn => ?_)
  unfold DX8_readBand at h
  refine x_aload_n (pc := 0) C dX8_readBand_0 rfl rfl ?_
  refine x_aload_n (pc := 1) C dX8_readBand_1 rfl rfl ?_
  obtain ⟨k, h⟩ := chk_s h
  refine x_getI (pc := 2) C fX8_220 rfl k dX8_readBand_2 ?_
  refine x_iconst (v := 5) (pc := 5) C dX8_readBand_5 (by decide) ?_
  obtain ⟨k, h⟩ := chk_s h
  have k2 := k
  obtain ⟨v1, σ2, k, h⟩ := bnd_s h
  refine x_callV1 (pc := 6) C (mX8_isFull E l k) cl6 k2 cX8_202 nX8_isFull sX8_isFull rfl rfl (Nat.le_of_ble_eq_true rfl) ⟨Nat.le_of_ble_eq_true rfl, Nat.le_of_ble_eq_true rfl, Nat.le_of_ble_eq_true rfl, Nat.le_of_ble_eq_true rfl⟩ dX8_readBand_6 ?_
  refine x_if_eq (pc := 9) (tgt := 13) C dX8_readBand_9 (by decide) (fun q => ?_) (fun q => ?_)
  · rw [if_pos q] at h
    refine x_aload_n (pc := 13) C dX8_readBand_13 rfl rfl ?_
    obtain ⟨k, h⟩ := chk_s h
    have k2 := k
    obtain ⟨u0, σ3, k, h⟩ := bnd_s h
    refine x_callV0 (pc := 14) C (mX8_goOn E l k) cl6 k2 cX8_175 nX8_goOn sX8_goOn rfl rfl (Nat.le_of_ble_eq_true rfl) ⟨Nat.le_of_ble_eq_true rfl, Nat.le_of_ble_eq_true rfl, Nat.le_of_ble_eq_true rfl, Nat.le_of_ble_eq_true rfl⟩ dX8_readBand_14 ?_
    refine x_aload_n (pc := 17) C dX8_readBand_17 rfl rfl ?_
    refine x_aload_n (pc := 18) C dX8_readBand_18 rfl rfl ?_
    obtain ⟨k, h⟩ := chk_s h
    refine x_getI (pc := 19) C fX8_220 rfl k dX8_readBand_19 ?_
    refine x_if_ne (pc := 22) (tgt := 29) C dX8_readBand_22 (by decide) (fun q => ?_) (fun q => ?_)
    · rw [if_pos q] at h
      refine x_iconst (v := 1) (pc := 25) C dX8_readBand_25 (by decide) ?_
      refine x_goto (tgt := 44) (pc := 26) C dX8_readBand_26 (by decide) ?_
      exact x_sub (tX8_readBand_44 C hr h) (xLe_s (xLe_n (xLe_n xLe_0)))
    · rw [if_neg q] at h
      refine x_aload_n (pc := 29) C dX8_readBand_29 rfl rfl ?_
      obtain ⟨k, h⟩ := chk_s h
      have k2 := k
      obtain ⟨k, h⟩ := chk_s h
      refine x_getR (pc := 30) C fX8_16 rfl k2 k dX8_readBand_30 ?_
      refine x_iconst (v := 2) (pc := 33) C dX8_readBand_33 (by decide) ?_
      refine x_aload_n (pc := 34) C dX8_readBand_34 rfl rfl ?_
      obtain ⟨k, h⟩ := chk_s h
      refine x_getI (pc := 35) C fX8_220 rfl k dX8_readBand_35 ?_
      refine x_imul (pc := 38) C dX8_readBand_38 ?_
      refine x_iconst (v := 2) (pc := 39) C dX8_readBand_39 (by decide) ?_
      refine x_isub (pc := 40) C dX8_readBand_40 ?_
      obtain ⟨k, h⟩ := chk_s h
      refine x_iald (pc := 41) C k dX8_readBand_41 ?_
      refine x_iconst (v := 1) (pc := 42) C dX8_readBand_42 (by decide) ?_
      refine x_iadd (pc := 43) C dX8_readBand_43 ?_
      exact x_sub (tX8_readBand_44 C hr h) (xLe_s (xLe_n (xLe_n xLe_0)))
  · rw [if_neg q] at h
    cases h
    exact x_vret C hr dX8_readBand_12
def DX8_readProviso_224 (l0 : Nat) (l1 : Int32) (l2 : Int32) (l3 : Int32) (l4 : Int32) (l6 : Int32) (l7 : Int32) (l8 : Int32) (σ : Sg) : Option (Unit × Sg) :=
  chk (ckO σ 6 l0) <|
  bnd (DX8_isEnd l0 σ) fun v1 σ2 =>
  if v1 = 0 then
    some ((), σ2)
  else
    chk (ckO σ2 6 l0) <|
    chk (ckV (gR σ2 l0 14)) <|
    chk (ckI σ2 (gR σ2 l0 14) l1) <|
    wlet (wI σ2 (gR σ2 l0 14) l1.toNatClampNeg l2) fun σ3 =>
    chk (ckO σ3 6 l0) <|
    chk (ckV (gR σ3 l0 14)) <|
    chk (ckI σ3 (gR σ3 l0 14) (l1 + (1 : Int32))) <|
    wlet (wI σ3 (gR σ3 l0 14) (l1 + (1 : Int32)).toNatClampNeg l3) fun σ4 =>
    chk (ckO σ4 6 l0) <|
    chk (ckV (gR σ4 l0 14)) <|
    chk (ckI σ4 (gR σ4 l0 14) (l1 + (2 : Int32))) <|
    wlet (wI σ4 (gR σ4 l0 14) (l1 + (2 : Int32)).toNatClampNeg l4) fun σ5 =>
    chk (ckO σ5 6 l0) <|
    chk (ckV (gR σ5 l0 14)) <|
    chk (ckI σ5 (gR σ5 l0 14) (l1 + (3 : Int32))) <|
    wlet (wI σ5 (gR σ5 l0 14) (l1 + (3 : Int32)).toNatClampNeg l6) fun σ6 =>
    chk (ckO σ6 6 l0) <|
    chk (ckV (gR σ6 l0 14)) <|
    chk (ckI σ6 (gR σ6 l0 14) (l1 + (4 : Int32))) <|
    wlet (wI σ6 (gR σ6 l0 14) (l1 + (4 : Int32)).toNatClampNeg l7) fun σ7 =>
    chk (ckO σ7 6 l0) <|
    chk (ckV (gR σ7 l0 14)) <|
    chk (ckI σ7 (gR σ7 l0 14) (l1 + (5 : Int32))) <|
    wlet (wI σ7 (gR σ7 l0 14) (l1 + (5 : Int32)).toNatClampNeg l8) fun σ8 =>
    chk (ckO σ8 6 l0) <|
    chk (ckO σ8 6 l0) <|
    wlet (pI σ8 l0 7 ((gI σ8 l0 7) + (1 : Int32))) fun σ9 =>
    some ((), σ9)
theorem tX8_readProviso_224 {r : Unit} {σ' : Sg} (C : Cx E p s m args meth c RX8 cX8_readProviso 9) (hr : meth.sig.returnType = none) {l0 : Nat} {l1 : Int32} {l2 : Int32} {l3 : Int32} {l4 : Int32} {l6 : Int32} {l7 : Int32} {l8 : Int32} {σ : Sg} (h : DX8_readProviso_224 l0 l1 l2 l3 l4 l6 l7 l8 σ = some (r, σ')) : Y E p l e (rmA 10 0 0) s m args below meth c none σ' 0 0 9 0 0 σ 224 [some (.ref (ad E l0)), some (.int l1), some (.int l2), some (.int l3), some (.int l4), none, some (.int l6), some (.int l7), some (.int l8)] [] := by
  unfold DX8_readProviso_224 at h
  refine x_aload_n (pc := 224) C dX8_readProviso_224 rfl rfl ?_
  obtain ⟨k, h⟩ := chk_s h
  have k2 := k
  obtain ⟨v1, σ2, k, h⟩ := bnd_s h
  refine x_callV1 (pc := 225) C (mX8_isEnd E l k) cl6 k2 cX8_217 nX8_isEnd sX8_isEnd rfl rfl (Nat.le_of_ble_eq_true rfl) ⟨Nat.le_of_ble_eq_true rfl, Nat.le_of_ble_eq_true rfl, Nat.le_of_ble_eq_true rfl, Nat.le_of_ble_eq_true rfl⟩ dX8_readProviso_225 ?_
  refine x_if_ne (pc := 228) (tgt := 232) C dX8_readProviso_228 (by decide) (fun q => ?_) (fun q => ?_)
  · rw [if_pos q] at h
    cases h
    exact x_vret C hr dX8_readProviso_231
  · rw [if_neg q] at h
    refine x_aload_n (pc := 232) C dX8_readProviso_232 rfl rfl ?_
    obtain ⟨k, h⟩ := chk_s h
    have k2 := k
    obtain ⟨k, h⟩ := chk_s h
    refine x_getR (pc := 233) C fX8_19 rfl k2 k dX8_readProviso_233 ?_
    refine x_iload_n (pc := 236) C dX8_readProviso_236 rfl rfl ?_
    refine x_iload_n (pc := 237) C dX8_readProviso_237 rfl rfl ?_
    obtain ⟨k, h⟩ := chk_s h
    obtain ⟨σ3, e1, h⟩ := wlet_s h
    refine x_iast (pc := 238) C k dX8_readProviso_238 (x_eq e1 ?_)
    refine x_aload_n (pc := 239) C dX8_readProviso_239 rfl rfl ?_
    obtain ⟨k, h⟩ := chk_s h
    have k2 := k
    obtain ⟨k, h⟩ := chk_s h
    refine x_getR (pc := 240) C fX8_19 rfl k2 k dX8_readProviso_240 ?_
    refine x_iload_n (pc := 243) C dX8_readProviso_243 rfl rfl ?_
    refine x_iconst (v := 1) (pc := 244) C dX8_readProviso_244 (by decide) ?_
    refine x_iadd (pc := 245) C dX8_readProviso_245 ?_
    refine x_iload_n (pc := 246) C dX8_readProviso_246 rfl rfl ?_
    obtain ⟨k, h⟩ := chk_s h
    obtain ⟨σ4, e1, h⟩ := wlet_s h
    refine x_iast (pc := 247) C k dX8_readProviso_247 (x_eq e1 ?_)
    refine x_aload_n (pc := 248) C dX8_readProviso_248 rfl rfl ?_
    obtain ⟨k, h⟩ := chk_s h
    have k2 := k
    obtain ⟨k, h⟩ := chk_s h
    refine x_getR (pc := 249) C fX8_19 rfl k2 k dX8_readProviso_249 ?_
    refine x_iload_n (pc := 252) C dX8_readProviso_252 rfl rfl ?_
    refine x_iconst (v := 2) (pc := 253) C dX8_readProviso_253 (by decide) ?_
    refine x_iadd (pc := 254) C dX8_readProviso_254 ?_
    refine x_iload (pc := 255) C dX8_readProviso_255 rfl ?_
    obtain ⟨k, h⟩ := chk_s h
    obtain ⟨σ5, e1, h⟩ := wlet_s h
    refine x_iast (pc := 257) C k dX8_readProviso_257 (x_eq e1 ?_)
    refine x_aload_n (pc := 258) C dX8_readProviso_258 rfl rfl ?_
    obtain ⟨k, h⟩ := chk_s h
    have k2 := k
    obtain ⟨k, h⟩ := chk_s h
    refine x_getR (pc := 259) C fX8_19 rfl k2 k dX8_readProviso_259 ?_
    refine x_iload_n (pc := 262) C dX8_readProviso_262 rfl rfl ?_
    refine x_iconst (v := 3) (pc := 263) C dX8_readProviso_263 (by decide) ?_
    refine x_iadd (pc := 264) C dX8_readProviso_264 ?_
    refine x_iload (pc := 265) C dX8_readProviso_265 rfl ?_
    obtain ⟨k, h⟩ := chk_s h
    obtain ⟨σ6, e1, h⟩ := wlet_s h
    refine x_iast (pc := 267) C k dX8_readProviso_267 (x_eq e1 ?_)
    refine x_aload_n (pc := 268) C dX8_readProviso_268 rfl rfl ?_
    obtain ⟨k, h⟩ := chk_s h
    have k2 := k
    obtain ⟨k, h⟩ := chk_s h
    refine x_getR (pc := 269) C fX8_19 rfl k2 k dX8_readProviso_269 ?_
    refine x_iload_n (pc := 272) C dX8_readProviso_272 rfl rfl ?_
    refine x_iconst (v := 4) (pc := 273) C dX8_readProviso_273 (by decide) ?_
    refine x_iadd (pc := 274) C dX8_readProviso_274 ?_
    refine x_iload (pc := 275) C dX8_readProviso_275 rfl ?_
    obtain ⟨k, h⟩ := chk_s h
    obtain ⟨σ7, e1, h⟩ := wlet_s h
    refine x_iast (pc := 277) C k dX8_readProviso_277 (x_eq e1 ?_)
    refine x_aload_n (pc := 278) C dX8_readProviso_278 rfl rfl ?_
    obtain ⟨k, h⟩ := chk_s h
    have k2 := k
    obtain ⟨k, h⟩ := chk_s h
    refine x_getR (pc := 279) C fX8_19 rfl k2 k dX8_readProviso_279 ?_
    refine x_iload_n (pc := 282) C dX8_readProviso_282 rfl rfl ?_
    refine x_iconst (v := 5) (pc := 283) C dX8_readProviso_283 (by decide) ?_
    refine x_iadd (pc := 284) C dX8_readProviso_284 ?_
    refine x_iload (pc := 285) C dX8_readProviso_285 rfl ?_
    obtain ⟨k, h⟩ := chk_s h
    obtain ⟨σ8, e1, h⟩ := wlet_s h
    refine x_iast (pc := 287) C k dX8_readProviso_287 (x_eq e1 ?_)
    refine x_aload_n (pc := 288) C dX8_readProviso_288 rfl rfl ?_
    refine x_dup (pc := 289) C dX8_readProviso_289 rfl ?_
    obtain ⟨k, h⟩ := chk_s h
    refine x_getI (pc := 290) C fX8_223 rfl k dX8_readProviso_290 ?_
    refine x_iconst (v := 1) (pc := 293) C dX8_readProviso_293 (by decide) ?_
    refine x_iadd (pc := 294) C dX8_readProviso_294 ?_
    obtain ⟨k, h⟩ := chk_s h
    obtain ⟨σ9, e1, h⟩ := wlet_s h
    refine x_putI (pc := 295) C pX8_223 rfl k dX8_readProviso_295 (x_eq e1 ?_)
    cases h
    exact x_vret C hr dX8_readProviso_298
def DX8_readProviso_187 (l0 : Nat) (l1 : Int32) (l2 : Int32) (l3 : Int32) (l4 : Int32) (l6 : Int32) (s0 : Nat) (s1 : Int32) (s2 : Int32) (σ : Sg) : Option (Unit × Sg) :=
  chk (ckO σ 6 s0) <|
  bnd (DX8_number s0 s1 s2 σ) fun v1 σ2 =>
  chk (ckO σ2 6 l0) <|
  bnd (DX8_isKey l0 (13 : Int32) σ2) fun v3 σ4 =>
  if v3 = 0 then
    DX8_readProviso_224 l0 l1 l2 l3 l4 l6 v1 (-2 : Int32) σ4
  else
    chk (ckO σ4 6 l0) <|
    bnd (DX8_goOn l0 σ4) fun _ σ5 =>
    chk (ckO σ5 6 l0) <|
    chk (ckV (gR σ5 l0 35)) <|
    chk (ckO σ5 6 l0) <|
    chk (ckO σ5 6 l0) <|
    bnd (DX8_told l0 (gR σ5 l0 35) (gI σ5 l0 4) l2 σ5) fun v6 σ7 =>
    DX8_readProviso_224 l0 l1 l2 l3 l4 l6 v1 v6 σ7
theorem tX8_readProviso_187 {r : Unit} {σ' : Sg} (C : Cx E p s m args meth c RX8 cX8_readProviso 9) (hr : meth.sig.returnType = none) {l0 : Nat} {l1 : Int32} {l2 : Int32} {l3 : Int32} {l4 : Int32} {l6 : Int32} {s0 : Nat} {s1 : Int32} {s2 : Int32} {σ : Sg} (h : DX8_readProviso_187 l0 l1 l2 l3 l4 l6 s0 s1 s2 σ = some (r, σ')) : Y E p l e (rmA 10 0 0) s m args below meth c none σ' 0 0 9 0 0 σ 187 [some (.ref (ad E l0)), some (.int l1), some (.int l2), some (.int l3), some (.int l4), none, some (.int l6), none, none] [.int s2, .int s1, .ref (ad E s0)] := by
  unfold DX8_readProviso_187 at h
  obtain ⟨k, h⟩ := chk_s h
  have k2 := k
  obtain ⟨v1, σ2, k, h⟩ := bnd_s h
  refine x_callV1 (pc := 187) C (mX8_number E l k) cl6 k2 cX8_213 nX8_number sX8_number rfl rfl (Nat.le_of_ble_eq_true rfl) ⟨Nat.le_of_ble_eq_true rfl, Nat.le_of_ble_eq_true rfl, Nat.le_of_ble_eq_true rfl, Nat.le_of_ble_eq_true rfl⟩ dX8_readProviso_187 ?_
  refine x_istore (M := [some _, some _, some _, some _, some _, none, some _, some _, none]) (pc := 190) C dX8_readProviso_190 (by decide) rfl ?_
  refine x_bipush (v := -2) (pc := 192) C dX8_readProviso_192 (by decide) ?_
  refine x_istore (M := [some _, some _, some _, some _, some _, none, some _, some _, some _]) (pc := 194) C dX8_readProviso_194 (by decide) rfl ?_
  refine x_aload_n (pc := 196) C dX8_readProviso_196 rfl rfl ?_
  refine x_bipush (v := 13) (pc := 197) C dX8_readProviso_197 (by decide) ?_
  obtain ⟨k, h⟩ := chk_s h
  have k2 := k
  obtain ⟨v3, σ4, k, h⟩ := bnd_s h
  refine x_callV1 (pc := 199) C (mX8_isKey E l k) cl6 k2 cX8_226 nX8_isKey sX8_isKey rfl rfl (Nat.le_of_ble_eq_true rfl) ⟨Nat.le_of_ble_eq_true rfl, Nat.le_of_ble_eq_true rfl, Nat.le_of_ble_eq_true rfl, Nat.le_of_ble_eq_true rfl⟩ dX8_readProviso_199 ?_
  refine x_if_eq (pc := 202) (tgt := 224) C dX8_readProviso_202 (by decide) (fun q => ?_) (fun q => ?_)
  · rw [if_pos q] at h
    exact x_sub (tX8_readProviso_224 C hr h) (xLe_s (xLe_s (xLe_s (xLe_s (xLe_s (xLe_n (xLe_s (xLe_s (xLe_s xLe_0)))))))))
  · rw [if_neg q] at h
    refine x_aload_n (pc := 205) C dX8_readProviso_205 rfl rfl ?_
    obtain ⟨k, h⟩ := chk_s h
    have k2 := k
    obtain ⟨u0, σ5, k, h⟩ := bnd_s h
    refine x_callV0 (pc := 206) C (mX8_goOn E l k) cl6 k2 cX8_175 nX8_goOn sX8_goOn rfl rfl (Nat.le_of_ble_eq_true rfl) ⟨Nat.le_of_ble_eq_true rfl, Nat.le_of_ble_eq_true rfl, Nat.le_of_ble_eq_true rfl, Nat.le_of_ble_eq_true rfl⟩ dX8_readProviso_206 ?_
    refine x_aload_n (pc := 209) C dX8_readProviso_209 rfl rfl ?_
    refine x_aload_n (pc := 210) C dX8_readProviso_210 rfl rfl ?_
    obtain ⟨k, h⟩ := chk_s h
    have k2 := k
    obtain ⟨k, h⟩ := chk_s h
    refine x_getR (pc := 211) C fX8_50 rfl k2 k dX8_readProviso_211 ?_
    refine x_aload_n (pc := 214) C dX8_readProviso_214 rfl rfl ?_
    obtain ⟨k, h⟩ := chk_s h
    refine x_getI (pc := 215) C fX8_189 rfl k dX8_readProviso_215 ?_
    refine x_iload_n (pc := 218) C dX8_readProviso_218 rfl rfl ?_
    obtain ⟨k, h⟩ := chk_s h
    have k2 := k
    obtain ⟨v6, σ7, k, h⟩ := bnd_s h
    refine x_callV1 (pc := 219) C (mX8_told E l k) cl6 k2 cX8_206 nX8_told sX8_told rfl rfl (Nat.le_of_ble_eq_true rfl) ⟨Nat.le_of_ble_eq_true rfl, Nat.le_of_ble_eq_true rfl, Nat.le_of_ble_eq_true rfl, Nat.le_of_ble_eq_true rfl⟩ dX8_readProviso_219 ?_
    refine x_istore (M := [some _, some _, some _, some _, some _, none, some _, some _, some _]) (pc := 222) C dX8_readProviso_222 (by decide) rfl ?_
    exact x_sub (tX8_readProviso_224 C hr h) (xLe_s (xLe_s (xLe_s (xLe_s (xLe_s (xLe_n (xLe_s (xLe_s (xLe_s xLe_0)))))))))
def DX8_readProviso_166 (l0 : Nat) (l1 : Int32) (l2 : Int32) (l3 : Int32) (l4 : Int32) (s0 : Int32) (σ : Sg) : Option (Unit × Sg) :=
  chk (ckO σ 6 l0) <|
  bnd (DX8_goOn l0 σ) fun _ σ1 =>
  if s0 = (2 : Int32) then
    DX8_readProviso_187 l0 l1 l2 l3 l4 s0 l0 (1 : Int32) (100 : Int32) σ1
  else
    DX8_readProviso_187 l0 l1 l2 l3 l4 s0 l0 (1 : Int32) (999999 : Int32) σ1
theorem tX8_readProviso_166 {r : Unit} {σ' : Sg} (C : Cx E p s m args meth c RX8 cX8_readProviso 9) (hr : meth.sig.returnType = none) {l0 : Nat} {l1 : Int32} {l2 : Int32} {l3 : Int32} {l4 : Int32} {s0 : Int32} {σ : Sg} (h : DX8_readProviso_166 l0 l1 l2 l3 l4 s0 σ = some (r, σ')) : Y E p l e (rmA 10 0 0) s m args below meth c none σ' 0 0 9 0 0 σ 166 [some (.ref (ad E l0)), some (.int l1), some (.int l2), some (.int l3), some (.int l4), none, none, none, none] [.int s0] := by
  unfold DX8_readProviso_166 at h
  refine x_istore (M := [some _, some _, some _, some _, some _, none, some _, none, none]) (pc := 166) C dX8_readProviso_166 (by decide) rfl ?_
  refine x_aload_n (pc := 168) C dX8_readProviso_168 rfl rfl ?_
  obtain ⟨k, h⟩ := chk_s h
  have k2 := k
  obtain ⟨u0, σ1, k, h⟩ := bnd_s h
  refine x_callV0 (pc := 169) C (mX8_goOn E l k) cl6 k2 cX8_175 nX8_goOn sX8_goOn rfl rfl (Nat.le_of_ble_eq_true rfl) ⟨Nat.le_of_ble_eq_true rfl, Nat.le_of_ble_eq_true rfl, Nat.le_of_ble_eq_true rfl, Nat.le_of_ble_eq_true rfl⟩ dX8_readProviso_169 ?_
  refine x_aload_n (pc := 172) C dX8_readProviso_172 rfl rfl ?_
  refine x_iconst (v := 1) (pc := 173) C dX8_readProviso_173 (by decide) ?_
  refine x_iload (pc := 174) C dX8_readProviso_174 rfl ?_
  refine x_iconst (v := 2) (pc := 176) C dX8_readProviso_176 (by decide) ?_
  refine x_icmp_ne (pc := 177) (tgt := 185) C dX8_readProviso_177 (by decide) (fun q => ?_) (fun q => ?_)
  · rw [if_pos q] at h
    refine x_bipush (v := 100) (pc := 180) C dX8_readProviso_180 (by decide) ?_
    refine x_goto (tgt := 187) (pc := 182) C dX8_readProviso_182 (by decide) ?_
    exact x_sub (tX8_readProviso_187 C hr h) (xLe_s (xLe_s (xLe_s (xLe_s (xLe_s (xLe_n (xLe_s (xLe_n (xLe_n xLe_0)))))))))
  · rw [if_neg q] at h
    refine x_ldc (pc := 185) C kX8_229 dX8_readProviso_185 ?_
    exact x_sub (tX8_readProviso_187 C hr h) (xLe_s (xLe_s (xLe_s (xLe_s (xLe_s (xLe_n (xLe_s (xLe_n (xLe_n xLe_0)))))))))
def DX8_readProviso_148 (l0 : Nat) (l1 : Int32) (l2 : Int32) (l3 : Int32) (l4 : Int32) (l5 : Int32) (σ : Sg) : Option (Unit × Sg) :=
  if l5 = 0 then
    DX8_readProviso_166 l0 l1 l2 l3 l4 (0 : Int32) σ
  else
    chk (ckO σ 6 l0) <|
    DX8_readProviso_166 l0 l1 l2 l3 l4 (((gI σ l0 27) - (9 : Int32)) + (1 : Int32)) σ
theorem tX8_readProviso_148 {r : Unit} {σ' : Sg} (C : Cx E p s m args meth c RX8 cX8_readProviso 9) (hr : meth.sig.returnType = none) {l0 : Nat} {l1 : Int32} {l2 : Int32} {l3 : Int32} {l4 : Int32} {l5 : Int32} {σ : Sg} (h : DX8_readProviso_148 l0 l1 l2 l3 l4 l5 σ = some (r, σ')) : Y E p l e (rmA 10 0 0) s m args below meth c none σ' 0 0 9 0 0 σ 148 [some (.ref (ad E l0)), some (.int l1), some (.int l2), some (.int l3), some (.int l4), some (.int l5), none, none, none] [] := by
  unfold DX8_readProviso_148 at h
  refine x_iload (pc := 148) C dX8_readProviso_148 rfl ?_
  refine x_if_eq (pc := 150) (tgt := 165) C dX8_readProviso_150 (by decide) (fun q => ?_) (fun q => ?_)
  · rw [if_pos q] at h
    refine x_iconst (v := 0) (pc := 165) C dX8_readProviso_165 (by decide) ?_
    exact x_sub (tX8_readProviso_166 C hr h) (xLe_s (xLe_s (xLe_s (xLe_s (xLe_s (xLe_n (xLe_n (xLe_n (xLe_n xLe_0)))))))))
  · rw [if_neg q] at h
    refine x_aload_n (pc := 153) C dX8_readProviso_153 rfl rfl ?_
    obtain ⟨k, h⟩ := chk_s h
    refine x_getI (pc := 154) C fX8_144 rfl k dX8_readProviso_154 ?_
    refine x_bipush (v := 9) (pc := 157) C dX8_readProviso_157 (by decide) ?_
    refine x_isub (pc := 159) C dX8_readProviso_159 ?_
    refine x_iconst (v := 1) (pc := 160) C dX8_readProviso_160 (by decide) ?_
    refine x_iadd (pc := 161) C dX8_readProviso_161 ?_
    refine x_goto (tgt := 166) (pc := 162) C dX8_readProviso_162 (by decide) ?_
    exact x_sub (tX8_readProviso_166 C hr h) (xLe_s (xLe_s (xLe_s (xLe_s (xLe_s (xLe_n (xLe_n (xLe_n (xLe_n xLe_0)))))))))
def DX8_readProviso_129 (l0 : Nat) (l1 : Int32) (l2 : Int32) (l3 : Int32) (l4 : Int32) (s0 : Int32) (σ : Sg) : Option (Unit × Sg) :=
  chk (ckO σ 6 l0) <|
  if (gI σ l0 29) = 0 then
    if s0 = 0 then
      chk (ckO σ 6 l0) <|
      bnd (DX8_wrong l0 (1 : Int32) σ) fun _ σ1 =>
      DX8_readProviso_148 l0 l1 l2 l3 l4 s0 σ1
    else
      DX8_readProviso_148 l0 l1 l2 l3 l4 s0 σ
  else
    DX8_readProviso_148 l0 l1 l2 l3 l4 s0 σ
theorem tX8_readProviso_129 {r : Unit} {σ' : Sg} (C : Cx E p s m args meth c RX8 cX8_readProviso 9) (hr : meth.sig.returnType = none) {l0 : Nat} {l1 : Int32} {l2 : Int32} {l3 : Int32} {l4 : Int32} {s0 : Int32} {σ : Sg} (h : DX8_readProviso_129 l0 l1 l2 l3 l4 s0 σ = some (r, σ')) : Y E p l e (rmA 10 0 0) s m args below meth c none σ' 0 0 9 0 0 σ 129 [some (.ref (ad E l0)), some (.int l1), some (.int l2), some (.int l3), some (.int l4), none, none, none, none] [.int s0] := by
  unfold DX8_readProviso_129 at h
  refine x_istore (M := [some _, some _, some _, some _, some _, some _, none, none, none]) (pc := 129) C dX8_readProviso_129 (by decide) rfl ?_
  refine x_aload_n (pc := 131) C dX8_readProviso_131 rfl rfl ?_
  obtain ⟨k, h⟩ := chk_s h
  refine x_getI (pc := 132) C fX8_162 rfl k dX8_readProviso_132 ?_
  refine x_if_ne (pc := 135) (tgt := 148) C dX8_readProviso_135 (by decide) (fun q => ?_) (fun q => ?_)
  · rw [if_pos q] at h
    refine x_iload (pc := 138) C dX8_readProviso_138 rfl ?_
    refine x_if_ne (pc := 140) (tgt := 148) C dX8_readProviso_140 (by decide) (fun q => ?_) (fun q => ?_)
    · rw [if_pos q] at h
      refine x_aload_n (pc := 143) C dX8_readProviso_143 rfl rfl ?_
      refine x_iconst (v := 1) (pc := 144) C dX8_readProviso_144 (by decide) ?_
      obtain ⟨k, h⟩ := chk_s h
      have k2 := k
      obtain ⟨u0, σ1, k, h⟩ := bnd_s h
      refine x_callV0 (pc := 145) C (mX8_wrong E l k) cl6 k2 cX8_171 nX8_wrong sX8_wrong rfl rfl (Nat.le_of_ble_eq_true rfl) ⟨Nat.le_of_ble_eq_true rfl, Nat.le_of_ble_eq_true rfl, Nat.le_of_ble_eq_true rfl, Nat.le_of_ble_eq_true rfl⟩ dX8_readProviso_145 ?_
      exact x_sub (tX8_readProviso_148 C hr h) (xLe_s (xLe_s (xLe_s (xLe_s (xLe_s (xLe_s (xLe_n (xLe_n (xLe_n xLe_0)))))))))
    · rw [if_neg q] at h
      exact x_sub (tX8_readProviso_148 C hr h) (xLe_s (xLe_s (xLe_s (xLe_s (xLe_s (xLe_s (xLe_n (xLe_n (xLe_n xLe_0)))))))))
  · rw [if_neg q] at h
    exact x_sub (tX8_readProviso_148 C hr h) (xLe_s (xLe_s (xLe_s (xLe_s (xLe_s (xLe_s (xLe_n (xLe_n (xLe_n xLe_0)))))))))
def DX8_readProviso_128 (l0 : Nat) (l1 : Int32) (l2 : Int32) (l3 : Int32) (l4 : Int32) (σ : Sg) : Option (Unit × Sg) :=
  DX8_readProviso_129 l0 l1 l2 l3 l4 (0 : Int32) σ
theorem tX8_readProviso_128 {r : Unit} {σ' : Sg} (C : Cx E p s m args meth c RX8 cX8_readProviso 9) (hr : meth.sig.returnType = none) {l0 : Nat} {l1 : Int32} {l2 : Int32} {l3 : Int32} {l4 : Int32} {σ : Sg} (h : DX8_readProviso_128 l0 l1 l2 l3 l4 σ = some (r, σ')) : Y E p l e (rmA 10 0 0) s m args below meth c none σ' 0 0 9 0 0 σ 128 [some (.ref (ad E l0)), some (.int l1), some (.int l2), some (.int l3), some (.int l4), none, none, none, none] [] := by
  unfold DX8_readProviso_128 at h
  refine x_iconst (v := 0) (pc := 128) C dX8_readProviso_128 (by decide) ?_
  exact x_sub (tX8_readProviso_129 C hr h) (xLe_s (xLe_s (xLe_s (xLe_s (xLe_s (xLe_n (xLe_n (xLe_n (xLe_n xLe_0)))))))))
def DX8_readProviso_92 (l0 : Nat) (l1 : Int32) (l2 : Int32) (l3 : Int32) (l4 : Int32) (σ : Sg) : Option (Unit × Sg) :=
  chk (ckO σ 6 l0) <|
  if (gI σ l0 29) = 0 then
    chk (ckO σ 6 l0) <|
    if (gI σ l0 26) = 0 then
      chk (ckO σ 6 l0) <|
      if (gI σ l0 27) < (9 : Int32) then
        DX8_readProviso_128 l0 l1 l2 l3 l4 σ
      else
        chk (ckO σ 6 l0) <|
        if (13 : Int32) ≤ (gI σ l0 27) then
          DX8_readProviso_128 l0 l1 l2 l3 l4 σ
        else
          DX8_readProviso_129 l0 l1 l2 l3 l4 (1 : Int32) σ
    else
      DX8_readProviso_128 l0 l1 l2 l3 l4 σ
  else
    DX8_readProviso_128 l0 l1 l2 l3 l4 σ
theorem tX8_readProviso_92 {r : Unit} {σ' : Sg} (C : Cx E p s m args meth c RX8 cX8_readProviso 9) (hr : meth.sig.returnType = none) {l0 : Nat} {l1 : Int32} {l2 : Int32} {l3 : Int32} {l4 : Int32} {σ : Sg} (h : DX8_readProviso_92 l0 l1 l2 l3 l4 σ = some (r, σ')) : Y E p l e (rmA 10 0 0) s m args below meth c none σ' 0 0 9 0 0 σ 92 [some (.ref (ad E l0)), some (.int l1), some (.int l2), some (.int l3), some (.int l4), none, none, none, none] [] := by
  unfold DX8_readProviso_92 at h
  refine x_aload_n (pc := 92) C dX8_readProviso_92 rfl rfl ?_
  obtain ⟨k, h⟩ := chk_s h
  refine x_getI (pc := 93) C fX8_162 rfl k dX8_readProviso_93 ?_
  refine x_if_ne (pc := 96) (tgt := 128) C dX8_readProviso_96 (by decide) (fun q => ?_) (fun q => ?_)
  · rw [if_pos q] at h
    refine x_aload_n (pc := 99) C dX8_readProviso_99 rfl rfl ?_
    obtain ⟨k, h⟩ := chk_s h
    refine x_getI (pc := 100) C fX8_131 rfl k dX8_readProviso_100 ?_
    refine x_if_ne (pc := 103) (tgt := 128) C dX8_readProviso_103 (by decide) (fun q => ?_) (fun q => ?_)
    · rw [if_pos q] at h
      refine x_aload_n (pc := 106) C dX8_readProviso_106 rfl rfl ?_
      obtain ⟨k, h⟩ := chk_s h
      refine x_getI (pc := 107) C fX8_144 rfl k dX8_readProviso_107 ?_
      refine x_bipush (v := 9) (pc := 110) C dX8_readProviso_110 (by decide) ?_
      refine x_icmp_lt (pc := 112) (tgt := 128) C dX8_readProviso_112 (by decide) (fun q => ?_) (fun q => ?_)
      · rw [if_pos q] at h
        exact x_sub (tX8_readProviso_128 C hr h) (xLe_s (xLe_s (xLe_s (xLe_s (xLe_s (xLe_n (xLe_n (xLe_n (xLe_n xLe_0)))))))))
      · rw [if_neg q] at h
        refine x_aload_n (pc := 115) C dX8_readProviso_115 rfl rfl ?_
        obtain ⟨k, h⟩ := chk_s h
        refine x_getI (pc := 116) C fX8_144 rfl k dX8_readProviso_116 ?_
        refine x_bipush (v := 13) (pc := 119) C dX8_readProviso_119 (by decide) ?_
        refine x_icmp_ge (pc := 121) (tgt := 128) C dX8_readProviso_121 (by decide) (fun q => ?_) (fun q => ?_)
        · rw [if_pos q] at h
          exact x_sub (tX8_readProviso_128 C hr h) (xLe_s (xLe_s (xLe_s (xLe_s (xLe_s (xLe_n (xLe_n (xLe_n (xLe_n xLe_0)))))))))
        · rw [if_neg q] at h
          refine x_iconst (v := 1) (pc := 124) C dX8_readProviso_124 (by decide) ?_
          refine x_goto (tgt := 129) (pc := 125) C dX8_readProviso_125 (by decide) ?_
          exact x_sub (tX8_readProviso_129 C hr h) (xLe_s (xLe_s (xLe_s (xLe_s (xLe_s (xLe_n (xLe_n (xLe_n (xLe_n xLe_0)))))))))
    · rw [if_neg q] at h
      exact x_sub (tX8_readProviso_128 C hr h) (xLe_s (xLe_s (xLe_s (xLe_s (xLe_s (xLe_n (xLe_n (xLe_n (xLe_n xLe_0)))))))))
  · rw [if_neg q] at h
    exact x_sub (tX8_readProviso_128 C hr h) (xLe_s (xLe_s (xLe_s (xLe_s (xLe_s (xLe_n (xLe_n (xLe_n (xLe_n xLe_0)))))))))
def DX8_readProviso (l0 : Nat) (σ : Sg) : Option (Unit × Sg) :=
  chk (ckO σ 6 l0) <|
  chk (ckO σ 6 l0) <|
  bnd (DX8_isFull l0 (gI σ l0 7) (16 : Int32) σ) fun v1 σ2 =>
  if v1 = 0 then
    chk (ckO σ2 6 l0) <|
    bnd (DX8_goOn l0 σ2) fun _ σ3 =>
    chk (ckO σ3 6 l0) <|
    chk (ckO σ3 6 l0) <|
    chk (ckV (gR σ3 l0 35)) <|
    chk (ckO σ3 6 l0) <|
    chk (ckO σ3 6 l0) <|
    bnd (DX8_told l0 (gR σ3 l0 35) (gI σ3 l0 4) (-1 : Int32) σ3) fun v4 σ5 =>
    chk (ckO σ5 6 l0) <|
    bnd (DX8_isKey l0 (8 : Int32) σ5) fun v6 σ7 =>
    if v6 = 0 then
      chk (ckO σ7 6 l0) <|
      chk (ckV (gR σ7 l0 34)) <|
      chk (ckO σ7 6 l0) <|
      chk (ckO σ7 6 l0) <|
      bnd (DX8_told l0 (gR σ7 l0 34) (gI σ7 l0 3) (-1 : Int32) σ7) fun v8 σ9 =>
      chk (ckO σ9 6 l0) <|
      chk (ckV (gR σ9 l0 34)) <|
      chk (ckO σ9 6 l0) <|
      chk (ckO σ9 6 l0) <|
      bnd (DX8_told l0 (gR σ9 l0 34) (gI σ9 l0 3) v8 σ9) fun v10 σ11 =>
      DX8_readProviso_92 l0 ((6 : Int32) * (gI σ3 l0 7)) v4 v8 v10 σ11
    else
      chk (ckO σ7 6 l0) <|
      bnd (DX8_goOn l0 σ7) fun _ σ12 =>
      DX8_readProviso_92 l0 ((6 : Int32) * (gI σ3 l0 7)) v4 (-2 : Int32) (-2 : Int32) σ12
  else
    some ((), σ2)
theorem mX8_readProviso (E : Ev) (l : Launch) {l0 : Nat} {σ : Sg} {r : Unit} {σ' : Sg} (h : DX8_readProviso l0 σ = some (r, σ')) : Mt E l yX8_readProviso cX8_readProviso 9 none 10 0 0 [.ref (ad E l0)] σ none σ' := by
  refine Mt.ofX (by decide) (Nat.le_of_ble_eq_true rfl) (L0 := [some (.ref (ad E l0)), none, none, none, none, none, none, none, none]) (xEntN_ok [.ref (ad E l0)] 9) (fun p e s m args below meth c C hr hn => ?_)
  unfold DX8_readProviso at h
  refine x_aload_n (pc := 0) C dX8_readProviso_0 rfl rfl ?_
  refine x_aload_n (pc := 1) C dX8_readProviso_1 rfl rfl ?_
  obtain ⟨k, h⟩ := chk_s h
  refine x_getI (pc := 2) C fX8_223 rfl k dX8_readProviso_2 ?_
  refine x_bipush (v := 16) (pc := 5) C dX8_readProviso_5 (by decide) ?_
  obtain ⟨k, h⟩ := chk_s h
  have k2 := k
  obtain ⟨v1, σ2, k, h⟩ := bnd_s h
  refine x_callV1 (pc := 7) C (mX8_isFull E l k) cl6 k2 cX8_202 nX8_isFull sX8_isFull rfl rfl (Nat.le_of_ble_eq_true rfl) ⟨Nat.le_of_ble_eq_true rfl, Nat.le_of_ble_eq_true rfl, Nat.le_of_ble_eq_true rfl, Nat.le_of_ble_eq_true rfl⟩ dX8_readProviso_7 ?_
  refine x_if_eq (pc := 10) (tgt := 14) C dX8_readProviso_10 (by decide) (fun q => ?_) (fun q => ?_)
  · rw [if_pos q] at h
    refine x_aload_n (pc := 14) C dX8_readProviso_14 rfl rfl ?_
    obtain ⟨k, h⟩ := chk_s h
    have k2 := k
    obtain ⟨u0, σ3, k, h⟩ := bnd_s h
    refine x_callV0 (pc := 15) C (mX8_goOn E l k) cl6 k2 cX8_175 nX8_goOn sX8_goOn rfl rfl (Nat.le_of_ble_eq_true rfl) ⟨Nat.le_of_ble_eq_true rfl, Nat.le_of_ble_eq_true rfl, Nat.le_of_ble_eq_true rfl, Nat.le_of_ble_eq_true rfl⟩ dX8_readProviso_15 ?_
    refine x_bipush (v := 6) (pc := 18) C dX8_readProviso_18 (by decide) ?_
    refine x_aload_n (pc := 20) C dX8_readProviso_20 rfl rfl ?_
    obtain ⟨k, h⟩ := chk_s h
    refine x_getI (pc := 21) C fX8_223 rfl k dX8_readProviso_21 ?_
    refine x_imul (pc := 24) C dX8_readProviso_24 ?_
    refine x_istore_n (M := [some _, some _, none, none, none, none, none, none, none]) (pc := 25) C dX8_readProviso_25 rfl (by decide) rfl ?_
    refine x_aload_n (pc := 26) C dX8_readProviso_26 rfl rfl ?_
    refine x_aload_n (pc := 27) C dX8_readProviso_27 rfl rfl ?_
    obtain ⟨k, h⟩ := chk_s h
    have k2 := k
    obtain ⟨k, h⟩ := chk_s h
    refine x_getR (pc := 28) C fX8_50 rfl k2 k dX8_readProviso_28 ?_
    refine x_aload_n (pc := 31) C dX8_readProviso_31 rfl rfl ?_
    obtain ⟨k, h⟩ := chk_s h
    refine x_getI (pc := 32) C fX8_189 rfl k dX8_readProviso_32 ?_
    refine x_iconst (v := -1) (pc := 35) C dX8_readProviso_35 (by decide) ?_
    obtain ⟨k, h⟩ := chk_s h
    have k2 := k
    obtain ⟨v4, σ5, k, h⟩ := bnd_s h
    refine x_callV1 (pc := 36) C (mX8_told E l k) cl6 k2 cX8_206 nX8_told sX8_told rfl rfl (Nat.le_of_ble_eq_true rfl) ⟨Nat.le_of_ble_eq_true rfl, Nat.le_of_ble_eq_true rfl, Nat.le_of_ble_eq_true rfl, Nat.le_of_ble_eq_true rfl⟩ dX8_readProviso_36 ?_
    refine x_istore_n (M := [some _, some _, some _, none, none, none, none, none, none]) (pc := 39) C dX8_readProviso_39 rfl (by decide) rfl ?_
    refine x_bipush (v := -2) (pc := 40) C dX8_readProviso_40 (by decide) ?_
    refine x_istore_n (M := [some _, some _, some _, some _, none, none, none, none, none]) (pc := 42) C dX8_readProviso_42 rfl (by decide) rfl ?_
    refine x_bipush (v := -2) (pc := 43) C dX8_readProviso_43 (by decide) ?_
    refine x_istore (M := [some _, some _, some _, some _, some _, none, none, none, none]) (pc := 45) C dX8_readProviso_45 (by decide) rfl ?_
    refine x_aload_n (pc := 47) C dX8_readProviso_47 rfl rfl ?_
    refine x_bipush (v := 8) (pc := 48) C dX8_readProviso_48 (by decide) ?_
    obtain ⟨k, h⟩ := chk_s h
    have k2 := k
    obtain ⟨v6, σ7, k, h⟩ := bnd_s h
    refine x_callV1 (pc := 50) C (mX8_isKey E l k) cl6 k2 cX8_226 nX8_isKey sX8_isKey rfl rfl (Nat.le_of_ble_eq_true rfl) ⟨Nat.le_of_ble_eq_true rfl, Nat.le_of_ble_eq_true rfl, Nat.le_of_ble_eq_true rfl, Nat.le_of_ble_eq_true rfl⟩ dX8_readProviso_50 ?_
    refine x_if_eq (pc := 53) (tgt := 63) C dX8_readProviso_53 (by decide) (fun q => ?_) (fun q => ?_)
    · rw [if_pos q] at h
      refine x_aload_n (pc := 63) C dX8_readProviso_63 rfl rfl ?_
      refine x_aload_n (pc := 64) C dX8_readProviso_64 rfl rfl ?_
      obtain ⟨k, h⟩ := chk_s h
      have k2 := k
      obtain ⟨k, h⟩ := chk_s h
      refine x_getR (pc := 65) C fX8_47 rfl k2 k dX8_readProviso_65 ?_
      refine x_aload_n (pc := 68) C dX8_readProviso_68 rfl rfl ?_
      obtain ⟨k, h⟩ := chk_s h
      refine x_getI (pc := 69) C fX8_182 rfl k dX8_readProviso_69 ?_
      refine x_iconst (v := -1) (pc := 72) C dX8_readProviso_72 (by decide) ?_
      obtain ⟨k, h⟩ := chk_s h
      have k2 := k
      obtain ⟨v8, σ9, k, h⟩ := bnd_s h
      refine x_callV1 (pc := 73) C (mX8_told E l k) cl6 k2 cX8_206 nX8_told sX8_told rfl rfl (Nat.le_of_ble_eq_true rfl) ⟨Nat.le_of_ble_eq_true rfl, Nat.le_of_ble_eq_true rfl, Nat.le_of_ble_eq_true rfl, Nat.le_of_ble_eq_true rfl⟩ dX8_readProviso_73 ?_
      refine x_istore_n (M := [some _, some _, some _, some _, some _, none, none, none, none]) (pc := 76) C dX8_readProviso_76 rfl (by decide) rfl ?_
      refine x_aload_n (pc := 77) C dX8_readProviso_77 rfl rfl ?_
      refine x_aload_n (pc := 78) C dX8_readProviso_78 rfl rfl ?_
      obtain ⟨k, h⟩ := chk_s h
      have k2 := k
      obtain ⟨k, h⟩ := chk_s h
      refine x_getR (pc := 79) C fX8_47 rfl k2 k dX8_readProviso_79 ?_
      refine x_aload_n (pc := 82) C dX8_readProviso_82 rfl rfl ?_
      obtain ⟨k, h⟩ := chk_s h
      refine x_getI (pc := 83) C fX8_182 rfl k dX8_readProviso_83 ?_
      refine x_iload_n (pc := 86) C dX8_readProviso_86 rfl rfl ?_
      obtain ⟨k, h⟩ := chk_s h
      have k2 := k
      obtain ⟨v10, σ11, k, h⟩ := bnd_s h
      refine x_callV1 (pc := 87) C (mX8_told E l k) cl6 k2 cX8_206 nX8_told sX8_told rfl rfl (Nat.le_of_ble_eq_true rfl) ⟨Nat.le_of_ble_eq_true rfl, Nat.le_of_ble_eq_true rfl, Nat.le_of_ble_eq_true rfl, Nat.le_of_ble_eq_true rfl⟩ dX8_readProviso_87 ?_
      refine x_istore (M := [some _, some _, some _, some _, some _, none, none, none, none]) (pc := 90) C dX8_readProviso_90 (by decide) rfl ?_
      exact x_sub (tX8_readProviso_92 C hr h) (xLe_s (xLe_s (xLe_s (xLe_s (xLe_s (xLe_n (xLe_n (xLe_n (xLe_n xLe_0)))))))))
    · rw [if_neg q] at h
      refine x_aload_n (pc := 56) C dX8_readProviso_56 rfl rfl ?_
      obtain ⟨k, h⟩ := chk_s h
      have k2 := k
      obtain ⟨u0, σ12, k, h⟩ := bnd_s h
      refine x_callV0 (pc := 57) C (mX8_goOn E l k) cl6 k2 cX8_175 nX8_goOn sX8_goOn rfl rfl (Nat.le_of_ble_eq_true rfl) ⟨Nat.le_of_ble_eq_true rfl, Nat.le_of_ble_eq_true rfl, Nat.le_of_ble_eq_true rfl, Nat.le_of_ble_eq_true rfl⟩ dX8_readProviso_57 ?_
      refine x_goto (tgt := 92) (pc := 60) C dX8_readProviso_60 (by decide) ?_
      exact x_sub (tX8_readProviso_92 C hr h) (xLe_s (xLe_s (xLe_s (xLe_s (xLe_s (xLe_n (xLe_n (xLe_n (xLe_n xLe_0)))))))))
  · rw [if_neg q] at h
    cases h
    exact x_vret C hr dX8_readProviso_13
def DX8_baseOf_55 (l0 : Nat) (l4 : Int32) (σ : Sg) : Option (Int32 × Sg) :=
  chk (ckO σ 6 l0) <|
  chk (ckV (gR σ l0 15)) <|
  chk (ckI σ (gR σ l0 15) (((4 : Int32) * l4) + (3 : Int32))) <|
  some ((aI σ (gR σ l0 15) (((4 : Int32) * l4) + (3 : Int32)).toNatClampNeg), σ)
theorem tX8_baseOf_55 {r : Int32} {σ' : Sg} (C : Cx E p s m args meth c RX8 cX8_baseOf 5) (hr : meth.sig.returnType = (some .int)) {l0 : Nat} {l4 : Int32} {σ : Sg} (h : DX8_baseOf_55 l0 l4 σ = some (r, σ')) : Y E p l e (rmA 2 0 0) s m args below meth c (some (.int r)) σ' 0 0 5 0 0 σ 55 [some (.ref (ad E l0)), none, none, none, some (.int l4)] [] := by
  unfold DX8_baseOf_55 at h
  refine x_aload_n (pc := 55) C dX8_baseOf_55 rfl rfl ?_
  obtain ⟨k, h⟩ := chk_s h
  have k2 := k
  obtain ⟨k, h⟩ := chk_s h
  refine x_getR (pc := 56) C fX8_22 rfl k2 k dX8_baseOf_56 ?_
  refine x_iconst (v := 4) (pc := 59) C dX8_baseOf_59 (by decide) ?_
  refine x_iload (pc := 60) C dX8_baseOf_60 rfl ?_
  refine x_imul (pc := 62) C dX8_baseOf_62 ?_
  refine x_iconst (v := 3) (pc := 63) C dX8_baseOf_63 (by decide) ?_
  refine x_iadd (pc := 64) C dX8_baseOf_64 ?_
  obtain ⟨k, h⟩ := chk_s h
  refine x_iald (pc := 65) C k dX8_baseOf_65 ?_
  cases h
  exact x_iret C hr dX8_baseOf_66
def DX8_baseOf_67 (K3 : Nat → Int32 → Int32 → Int32 → Int32 → Sg → Option (Int32 × Sg)) (l0 : Nat) (l1 : Int32) (l2 : Int32) (l3 : Int32) (l4 : Int32) (σ : Sg) : Option (Int32 × Sg) :=
  K3 l0 l1 l2 l3 (l4 + (1 : Int32)) σ
theorem tX8_baseOf_67 {r : Int32} {σ' : Sg} (C : Cx E p s m args meth c RX8 cX8_baseOf 5) (hr : meth.sig.returnType = (some .int)) {K3 : Nat → Int32 → Int32 → Int32 → Int32 → Sg → Option (Int32 × Sg)} (hK3 : ∀ (l0 : Nat) (l1 : Int32) (l2 : Int32) (l3 : Int32) (l4 : Int32) (σ : Sg), K3 l0 l1 l2 l3 l4 σ = some (r, σ') → Y E p l e (rmA 2 0 0) s m args below meth c (some (.int r)) σ' 0 0 5 0 0 σ 3 [some (.ref (ad E l0)), some (.int l1), some (.int l2), some (.int l3), some (.int l4)] []) {l0 : Nat} {l1 : Int32} {l2 : Int32} {l3 : Int32} {l4 : Int32} {σ : Sg} (h : DX8_baseOf_67 K3 l0 l1 l2 l3 l4 σ = some (r, σ')) : Y E p l e (rmA 2 0 0) s m args below meth c (some (.int r)) σ' 0 0 5 0 0 σ 67 [some (.ref (ad E l0)), some (.int l1), some (.int l2), some (.int l3), some (.int l4)] [] := by
  unfold DX8_baseOf_67 at h
  refine x_iinc (v := 1) (M := [some _, some _, some _, some _, some _]) (pc := 67) C dX8_baseOf_67 rfl (by decide) (by decide) rfl ?_
  refine x_goto (tgt := 3) (pc := 70) C dX8_baseOf_70 (by decide) ?_
  exact x_sub (hK3 _ _ _ _ _ _ h) (xLe_s (xLe_s (xLe_s (xLe_s (xLe_s xLe_0)))))
def DX8_baseOf_73 (σ : Sg) : Option (Int32 × Sg) :=
  some ((-2 : Int32), σ)
theorem tX8_baseOf_73 {r : Int32} {σ' : Sg} (C : Cx E p s m args meth c RX8 cX8_baseOf 5) (hr : meth.sig.returnType = (some .int)) {σ : Sg} (h : DX8_baseOf_73  σ = some (r, σ')) : Y E p l e (rmA 2 0 0) s m args below meth c (some (.int r)) σ' 0 0 5 0 0 σ 73 [none, none, none, none, none] [] := by
  unfold DX8_baseOf_73 at h
  refine x_bipush (v := -2) (pc := 73) C dX8_baseOf_73 (by decide) ?_
  cases h
  exact x_iret C hr dX8_baseOf_75
def DX8_baseOf_3 : Nat → Nat → Int32 → Int32 → Int32 → Int32 → Sg → Option (Int32 × Sg)
  | 0, _, _, _, _, _, _ => none
  | n + 1, l0, l1, l2, l3, l4, σ =>
    chk (ckO σ 6 l0) <|
    if (gI σ l0 8) ≤ l4 then
      DX8_baseOf_73 σ
    else
      chk (ckO σ 6 l0) <|
      chk (ckV (gR σ l0 15)) <|
      chk (ckI σ (gR σ l0 15) ((4 : Int32) * l4)) <|
      if (aI σ (gR σ l0 15) ((4 : Int32) * l4).toNatClampNeg) = l1 then
        chk (ckO σ 6 l0) <|
        chk (ckV (gR σ l0 15)) <|
        chk (ckI σ (gR σ l0 15) (((4 : Int32) * l4) + (1 : Int32))) <|
        chk (ckO σ 6 l0) <|
        chk (ckV (gR σ l0 15)) <|
        chk (ckI σ (gR σ l0 15) (((4 : Int32) * l4) + (2 : Int32))) <|
        bnd (DX8_arePair (aI σ (gR σ l0 15) (((4 : Int32) * l4) + (1 : Int32)).toNatClampNeg) (aI σ (gR σ l0 15) (((4 : Int32) * l4) + (2 : Int32)).toNatClampNeg) l2 l3 σ) fun v1 σ2 =>
        if v1 = 0 then
          DX8_baseOf_67 (DX8_baseOf_3 n) l0 l1 l2 l3 l4 σ2
        else
          DX8_baseOf_55 l0 l4 σ2
      else
        DX8_baseOf_67 (DX8_baseOf_3 n) l0 l1 l2 l3 l4 σ
theorem tX8_baseOf_3 {r : Int32} {σ' : Sg} (C : Cx E p s m args meth c RX8 cX8_baseOf 5) (hr : meth.sig.returnType = (some .int)) : ∀ (n : Nat) (l0 : Nat) (l1 : Int32) (l2 : Int32) (l3 : Int32) (l4 : Int32) (σ : Sg) (h : DX8_baseOf_3 n l0 l1 l2 l3 l4 σ = some (r, σ')), Y E p l e (rmA 2 0 0) s m args below meth c (some (.int r)) σ' 0 0 5 0 0 σ 3 [some (.ref (ad E l0)), some (.int l1), some (.int l2), some (.int l3), some (.int l4)] [] := by
  intro n
  induction n with
  | zero => intro l0 l1 l2 l3 l4 σ h; cases h
  | succ n ih =>
    intro l0 l1 l2 l3 l4 σ h
    unfold DX8_baseOf_3 at h
    refine x_iload (pc := 3) C dX8_baseOf_3 rfl ?_
    refine x_aload_n (pc := 5) C dX8_baseOf_5 rfl rfl ?_
    obtain ⟨k, h⟩ := chk_s h
    refine x_getI (pc := 6) C fX8_230 rfl k dX8_baseOf_6 ?_
    refine x_icmp_ge (pc := 9) (tgt := 73) C dX8_baseOf_9 (by decide) (fun q => ?_) (fun q => ?_)
    · rw [if_pos q] at h
      exact x_sub (tX8_baseOf_73 C hr h) (xLe_n (xLe_n (xLe_n (xLe_n (xLe_n xLe_0)))))
    · rw [if_neg q] at h
      refine x_aload_n (pc := 12) C dX8_baseOf_12 rfl rfl ?_
      obtain ⟨k, h⟩ := chk_s h
      have k2 := k
      obtain ⟨k, h⟩ := chk_s h
      refine x_getR (pc := 13) C fX8_22 rfl k2 k dX8_baseOf_13 ?_
      refine x_iconst (v := 4) (pc := 16) C dX8_baseOf_16 (by decide) ?_
      refine x_iload (pc := 17) C dX8_baseOf_17 rfl ?_
      refine x_imul (pc := 19) C dX8_baseOf_19 ?_
      obtain ⟨k, h⟩ := chk_s h
      refine x_iald (pc := 20) C k dX8_baseOf_20 ?_
      refine x_iload_n (pc := 21) C dX8_baseOf_21 rfl rfl ?_
      refine x_icmp_ne (pc := 22) (tgt := 67) C dX8_baseOf_22 (by decide) (fun q => ?_) (fun q => ?_)
      · rw [if_pos q] at h
        refine x_aload_n (pc := 25) C dX8_baseOf_25 rfl rfl ?_
        obtain ⟨k, h⟩ := chk_s h
        have k2 := k
        obtain ⟨k, h⟩ := chk_s h
        refine x_getR (pc := 26) C fX8_22 rfl k2 k dX8_baseOf_26 ?_
        refine x_iconst (v := 4) (pc := 29) C dX8_baseOf_29 (by decide) ?_
        refine x_iload (pc := 30) C dX8_baseOf_30 rfl ?_
        refine x_imul (pc := 32) C dX8_baseOf_32 ?_
        refine x_iconst (v := 1) (pc := 33) C dX8_baseOf_33 (by decide) ?_
        refine x_iadd (pc := 34) C dX8_baseOf_34 ?_
        obtain ⟨k, h⟩ := chk_s h
        refine x_iald (pc := 35) C k dX8_baseOf_35 ?_
        refine x_aload_n (pc := 36) C dX8_baseOf_36 rfl rfl ?_
        obtain ⟨k, h⟩ := chk_s h
        have k2 := k
        obtain ⟨k, h⟩ := chk_s h
        refine x_getR (pc := 37) C fX8_22 rfl k2 k dX8_baseOf_37 ?_
        refine x_iconst (v := 4) (pc := 40) C dX8_baseOf_40 (by decide) ?_
        refine x_iload (pc := 41) C dX8_baseOf_41 rfl ?_
        refine x_imul (pc := 43) C dX8_baseOf_43 ?_
        refine x_iconst (v := 2) (pc := 44) C dX8_baseOf_44 (by decide) ?_
        refine x_iadd (pc := 45) C dX8_baseOf_45 ?_
        obtain ⟨k, h⟩ := chk_s h
        refine x_iald (pc := 46) C k dX8_baseOf_46 ?_
        refine x_iload_n (pc := 47) C dX8_baseOf_47 rfl rfl ?_
        refine x_iload_n (pc := 48) C dX8_baseOf_48 rfl rfl ?_
        obtain ⟨v1, σ2, k, h⟩ := bnd_s h
        refine x_callS1 (pc := 49) C (mX8_arePair E l k) cX8_209 zX8_arePair rfl rfl (Nat.le_of_ble_eq_true rfl) ⟨Nat.le_of_ble_eq_true rfl, Nat.le_of_ble_eq_true rfl, Nat.le_of_ble_eq_true rfl, Nat.le_of_ble_eq_true rfl⟩ dX8_baseOf_49 ?_
        refine x_if_eq (pc := 52) (tgt := 67) C dX8_baseOf_52 (by decide) (fun q => ?_) (fun q => ?_)
        · rw [if_pos q] at h
          exact x_sub (tX8_baseOf_67 C hr ih h) (xLe_s (xLe_s (xLe_s (xLe_s (xLe_s xLe_0)))))
        · rw [if_neg q] at h
          exact x_sub (tX8_baseOf_55 C hr h) (xLe_s (xLe_n (xLe_n (xLe_n (xLe_s xLe_0)))))
      · rw [if_neg q] at h
        exact x_sub (tX8_baseOf_67 C hr ih h) (xLe_s (xLe_s (xLe_s (xLe_s (xLe_s xLe_0)))))
def DX8_baseOf (l0 : Nat) (l1 : Int32) (l2 : Int32) (l3 : Int32) (σ : Sg) : Option (Int32 × Sg) :=
  DX8_baseOf_3 FU l0 l1 l2 l3 (0 : Int32) σ
theorem mX8_baseOf (E : Ev) (l : Launch) {l0 : Nat} {l1 : Int32} {l2 : Int32} {l3 : Int32} {σ : Sg} {r : Int32} {σ' : Sg} (h : DX8_baseOf l0 l1 l2 l3 σ = some (r, σ')) : Mt E l yX8_baseOf cX8_baseOf 5 (some .int) 2 0 0 [.ref (ad E l0), .int l1, .int l2, .int l3] σ (some (.int r)) σ' := by
  refine Mt.ofX (by decide) (Nat.le_of_ble_eq_true rfl) (L0 := [some (.ref (ad E l0)), some (.int l1), some (.int l2), some (.int l3), none]) (xEntN_ok [.ref (ad E l0), .int l1, .int l2, .int l3] 5) (fun p e s m args below meth c C hr hn => ?_)
  unfold DX8_baseOf at h
  refine x_iconst (v := 0) (pc := 0) C dX8_baseOf_0 (by decide) ?_
  refine x_istore (M := [some _, some _, some _, some _, some _]) (pc := 1) C dX8_baseOf_1 (by decide) rfl ?_
  exact x_sub (tX8_baseOf_3 C hr FU _ _ _ _ _ _ h) (xLe_s (xLe_s (xLe_s (xLe_s (xLe_s xLe_0)))))
def DX8_readBase_84 (l0 : Nat) (l1 : Int32) (l2 : Int32) (l3 : Int32) (σ : Sg) : Option (Unit × Sg) :=
  chk (ckO σ 6 l0) <|
  bnd (DX8_goOn l0 σ) fun _ σ1 =>
  chk (ckO σ1 6 l0) <|
  bnd (DX8_number l0 (1 : Int32) (999999 : Int32) σ1) fun v2 σ3 =>
  chk (ckO σ3 6 l0) <|
  bnd (DX8_isEnd l0 σ3) fun v4 σ5 =>
  if v4 = 0 then
    some ((), σ5)
  else
    chk (ckO σ5 6 l0) <|
    chk (ckV (gR σ5 l0 15)) <|
    chk (ckO σ5 6 l0) <|
    chk (ckI σ5 (gR σ5 l0 15) ((4 : Int32) * (gI σ5 l0 8))) <|
    wlet (wI σ5 (gR σ5 l0 15) ((4 : Int32) * (gI σ5 l0 8)).toNatClampNeg l1) fun σ6 =>
    chk (ckO σ6 6 l0) <|
    chk (ckV (gR σ6 l0 15)) <|
    chk (ckO σ6 6 l0) <|
    chk (ckI σ6 (gR σ6 l0 15) (((4 : Int32) * (gI σ6 l0 8)) + (1 : Int32))) <|
    wlet (wI σ6 (gR σ6 l0 15) (((4 : Int32) * (gI σ6 l0 8)) + (1 : Int32)).toNatClampNeg l2) fun σ7 =>
    chk (ckO σ7 6 l0) <|
    chk (ckV (gR σ7 l0 15)) <|
    chk (ckO σ7 6 l0) <|
    chk (ckI σ7 (gR σ7 l0 15) (((4 : Int32) * (gI σ7 l0 8)) + (2 : Int32))) <|
    wlet (wI σ7 (gR σ7 l0 15) (((4 : Int32) * (gI σ7 l0 8)) + (2 : Int32)).toNatClampNeg l3) fun σ8 =>
    chk (ckO σ8 6 l0) <|
    chk (ckV (gR σ8 l0 15)) <|
    chk (ckO σ8 6 l0) <|
    chk (ckI σ8 (gR σ8 l0 15) (((4 : Int32) * (gI σ8 l0 8)) + (3 : Int32))) <|
    wlet (wI σ8 (gR σ8 l0 15) (((4 : Int32) * (gI σ8 l0 8)) + (3 : Int32)).toNatClampNeg v2) fun σ9 =>
    chk (ckO σ9 6 l0) <|
    chk (ckO σ9 6 l0) <|
    wlet (pI σ9 l0 8 ((gI σ9 l0 8) + (1 : Int32))) fun σ10 =>
    some ((), σ10)
theorem tX8_readBase_84 {r : Unit} {σ' : Sg} (C : Cx E p s m args meth c RX8 cX8_readBase 5) (hr : meth.sig.returnType = none) {l0 : Nat} {l1 : Int32} {l2 : Int32} {l3 : Int32} {σ : Sg} (h : DX8_readBase_84 l0 l1 l2 l3 σ = some (r, σ')) : Y E p l e (rmA 10 0 0) s m args below meth c none σ' 0 0 5 0 0 σ 84 [some (.ref (ad E l0)), some (.int l1), some (.int l2), some (.int l3), none] [] := by
  unfold DX8_readBase_84 at h
  refine x_aload_n (pc := 84) C dX8_readBase_84 rfl rfl ?_
  obtain ⟨k, h⟩ := chk_s h
  have k2 := k
  obtain ⟨u0, σ1, k, h⟩ := bnd_s h
  refine x_callV0 (pc := 85) C (mX8_goOn E l k) cl6 k2 cX8_175 nX8_goOn sX8_goOn rfl rfl (Nat.le_of_ble_eq_true rfl) ⟨Nat.le_of_ble_eq_true rfl, Nat.le_of_ble_eq_true rfl, Nat.le_of_ble_eq_true rfl, Nat.le_of_ble_eq_true rfl⟩ dX8_readBase_85 ?_
  refine x_aload_n (pc := 88) C dX8_readBase_88 rfl rfl ?_
  refine x_iconst (v := 1) (pc := 89) C dX8_readBase_89 (by decide) ?_
  refine x_ldc (pc := 90) C kX8_229 dX8_readBase_90 ?_
  obtain ⟨k, h⟩ := chk_s h
  have k2 := k
  obtain ⟨v2, σ3, k, h⟩ := bnd_s h
  refine x_callV1 (pc := 92) C (mX8_number E l k) cl6 k2 cX8_213 nX8_number sX8_number rfl rfl (Nat.le_of_ble_eq_true rfl) ⟨Nat.le_of_ble_eq_true rfl, Nat.le_of_ble_eq_true rfl, Nat.le_of_ble_eq_true rfl, Nat.le_of_ble_eq_true rfl⟩ dX8_readBase_92 ?_
  refine x_istore (M := [some _, some _, some _, some _, some _]) (pc := 95) C dX8_readBase_95 (by decide) rfl ?_
  refine x_aload_n (pc := 97) C dX8_readBase_97 rfl rfl ?_
  obtain ⟨k, h⟩ := chk_s h
  have k2 := k
  obtain ⟨v4, σ5, k, h⟩ := bnd_s h
  refine x_callV1 (pc := 98) C (mX8_isEnd E l k) cl6 k2 cX8_217 nX8_isEnd sX8_isEnd rfl rfl (Nat.le_of_ble_eq_true rfl) ⟨Nat.le_of_ble_eq_true rfl, Nat.le_of_ble_eq_true rfl, Nat.le_of_ble_eq_true rfl, Nat.le_of_ble_eq_true rfl⟩ dX8_readBase_98 ?_
  refine x_if_ne (pc := 101) (tgt := 105) C dX8_readBase_101 (by decide) (fun q => ?_) (fun q => ?_)
  · rw [if_pos q] at h
    cases h
    exact x_vret C hr dX8_readBase_104
  · rw [if_neg q] at h
    refine x_aload_n (pc := 105) C dX8_readBase_105 rfl rfl ?_
    obtain ⟨k, h⟩ := chk_s h
    have k2 := k
    obtain ⟨k, h⟩ := chk_s h
    refine x_getR (pc := 106) C fX8_22 rfl k2 k dX8_readBase_106 ?_
    refine x_iconst (v := 4) (pc := 109) C dX8_readBase_109 (by decide) ?_
    refine x_aload_n (pc := 110) C dX8_readBase_110 rfl rfl ?_
    obtain ⟨k, h⟩ := chk_s h
    refine x_getI (pc := 111) C fX8_230 rfl k dX8_readBase_111 ?_
    refine x_imul (pc := 114) C dX8_readBase_114 ?_
    refine x_iload_n (pc := 115) C dX8_readBase_115 rfl rfl ?_
    obtain ⟨k, h⟩ := chk_s h
    obtain ⟨σ6, e1, h⟩ := wlet_s h
    refine x_iast (pc := 116) C k dX8_readBase_116 (x_eq e1 ?_)
    refine x_aload_n (pc := 117) C dX8_readBase_117 rfl rfl ?_
    obtain ⟨k, h⟩ := chk_s h
    have k2 := k
    obtain ⟨k, h⟩ := chk_s h
    refine x_getR (pc := 118) C fX8_22 rfl k2 k dX8_readBase_118 ?_
    refine x_iconst (v := 4) (pc := 121) C dX8_readBase_121 (by decide) ?_
    refine x_aload_n (pc := 122) C dX8_readBase_122 rfl rfl ?_
    obtain ⟨k, h⟩ := chk_s h
    refine x_getI (pc := 123) C fX8_230 rfl k dX8_readBase_123 ?_
    refine x_imul (pc := 126) C dX8_readBase_126 ?_
    refine x_iconst (v := 1) (pc := 127) C dX8_readBase_127 (by decide) ?_
    refine x_iadd (pc := 128) C dX8_readBase_128 ?_
    refine x_iload_n (pc := 129) C dX8_readBase_129 rfl rfl ?_
    obtain ⟨k, h⟩ := chk_s h
    obtain ⟨σ7, e1, h⟩ := wlet_s h
    refine x_iast (pc := 130) C k dX8_readBase_130 (x_eq e1 ?_)
    refine x_aload_n (pc := 131) C dX8_readBase_131 rfl rfl ?_
    obtain ⟨k, h⟩ := chk_s h
    have k2 := k
    obtain ⟨k, h⟩ := chk_s h
    refine x_getR (pc := 132) C fX8_22 rfl k2 k dX8_readBase_132 ?_
    refine x_iconst (v := 4) (pc := 135) C dX8_readBase_135 (by decide) ?_
    refine x_aload_n (pc := 136) C dX8_readBase_136 rfl rfl ?_
    obtain ⟨k, h⟩ := chk_s h
    refine x_getI (pc := 137) C fX8_230 rfl k dX8_readBase_137 ?_
    refine x_imul (pc := 140) C dX8_readBase_140 ?_
    refine x_iconst (v := 2) (pc := 141) C dX8_readBase_141 (by decide) ?_
    refine x_iadd (pc := 142) C dX8_readBase_142 ?_
    refine x_iload_n (pc := 143) C dX8_readBase_143 rfl rfl ?_
    obtain ⟨k, h⟩ := chk_s h
    obtain ⟨σ8, e1, h⟩ := wlet_s h
    refine x_iast (pc := 144) C k dX8_readBase_144 (x_eq e1 ?_)
    refine x_aload_n (pc := 145) C dX8_readBase_145 rfl rfl ?_
    obtain ⟨k, h⟩ := chk_s h
    have k2 := k
    obtain ⟨k, h⟩ := chk_s h
    refine x_getR (pc := 146) C fX8_22 rfl k2 k dX8_readBase_146 ?_
    refine x_iconst (v := 4) (pc := 149) C dX8_readBase_149 (by decide) ?_
    refine x_aload_n (pc := 150) C dX8_readBase_150 rfl rfl ?_
    obtain ⟨k, h⟩ := chk_s h
    refine x_getI (pc := 151) C fX8_230 rfl k dX8_readBase_151 ?_
    refine x_imul (pc := 154) C dX8_readBase_154 ?_
    refine x_iconst (v := 3) (pc := 155) C dX8_readBase_155 (by decide) ?_
    refine x_iadd (pc := 156) C dX8_readBase_156 ?_
    refine x_iload (pc := 157) C dX8_readBase_157 rfl ?_
    obtain ⟨k, h⟩ := chk_s h
    obtain ⟨σ9, e1, h⟩ := wlet_s h
    refine x_iast (pc := 159) C k dX8_readBase_159 (x_eq e1 ?_)
    refine x_aload_n (pc := 160) C dX8_readBase_160 rfl rfl ?_
    refine x_dup (pc := 161) C dX8_readBase_161 rfl ?_
    obtain ⟨k, h⟩ := chk_s h
    refine x_getI (pc := 162) C fX8_230 rfl k dX8_readBase_162 ?_
    refine x_iconst (v := 1) (pc := 165) C dX8_readBase_165 (by decide) ?_
    refine x_iadd (pc := 166) C dX8_readBase_166 ?_
    obtain ⟨k, h⟩ := chk_s h
    obtain ⟨σ10, e1, h⟩ := wlet_s h
    refine x_putI (pc := 167) C pX8_230 rfl k dX8_readBase_167 (x_eq e1 ?_)
    cases h
    exact x_vret C hr dX8_readBase_170
def DX8_readBase (l0 : Nat) (σ : Sg) : Option (Unit × Sg) :=
  chk (ckO σ 6 l0) <|
  chk (ckO σ 6 l0) <|
  bnd (DX8_isFull l0 (gI σ l0 8) (16 : Int32) σ) fun v1 σ2 =>
  if v1 = 0 then
    chk (ckO σ2 6 l0) <|
    bnd (DX8_goOn l0 σ2) fun _ σ3 =>
    chk (ckO σ3 6 l0) <|
    chk (ckV (gR σ3 l0 35)) <|
    chk (ckO σ3 6 l0) <|
    chk (ckO σ3 6 l0) <|
    bnd (DX8_told l0 (gR σ3 l0 35) (gI σ3 l0 4) (-1 : Int32) σ3) fun v4 σ5 =>
    chk (ckO σ5 6 l0) <|
    chk (ckV (gR σ5 l0 34)) <|
    chk (ckO σ5 6 l0) <|
    chk (ckO σ5 6 l0) <|
    bnd (DX8_told l0 (gR σ5 l0 34) (gI σ5 l0 3) (-1 : Int32) σ5) fun v6 σ7 =>
    chk (ckO σ7 6 l0) <|
    chk (ckV (gR σ7 l0 34)) <|
    chk (ckO σ7 6 l0) <|
    chk (ckO σ7 6 l0) <|
    bnd (DX8_seen l0 (gR σ7 l0 34) (gI σ7 l0 3) v6 σ7) fun v8 σ9 =>
    chk (ckO σ9 6 l0) <|
    if (gI σ9 l0 29) = 0 then
      chk (ckO σ9 6 l0) <|
      bnd (DX8_baseOf l0 v4 v6 v8 σ9) fun v10 σ11 =>
      if v10 = (-2 : Int32) then
        DX8_readBase_84 l0 v4 v6 v8 σ11
      else
        chk (ckO σ11 6 l0) <|
        bnd (DX8_wrong l0 (3 : Int32) σ11) fun _ σ12 =>
        DX8_readBase_84 l0 v4 v6 v8 σ12
    else
      DX8_readBase_84 l0 v4 v6 v8 σ9
  else
    some ((), σ2)
theorem mX8_readBase (E : Ev) (l : Launch) {l0 : Nat} {σ : Sg} {r : Unit} {σ' : Sg} (h : DX8_readBase l0 σ = some (r, σ')) : Mt E l yX8_readBase cX8_readBase 5 none 10 0 0 [.ref (ad E l0)] σ none σ' := by
  refine Mt.ofX (by decide) (Nat.le_of_ble_eq_true rfl) (L0 := [some (.ref (ad E l0)), none, none, none, none]) (xEntN_ok [.ref (ad E l0)] 5) (fun p e s m args below meth c C hr hn => ?_)
  unfold DX8_readBase at h
  refine x_aload_n (pc := 0) C dX8_readBase_0 rfl rfl ?_
  refine x_aload_n (pc := 1) C dX8_readBase_1 rfl rfl ?_
  obtain ⟨k, h⟩ := chk_s h
  refine x_getI (pc := 2) C fX8_230 rfl k dX8_readBase_2 ?_
  refine x_bipush (v := 16) (pc := 5) C dX8_readBase_5 (by decide) ?_
  obtain ⟨k, h⟩ := chk_s h
  have k2 := k
  obtain ⟨v1, σ2, k, h⟩ := bnd_s h
  refine x_callV1 (pc := 7) C (mX8_isFull E l k) cl6 k2 cX8_202 nX8_isFull sX8_isFull rfl rfl (Nat.le_of_ble_eq_true rfl) ⟨Nat.le_of_ble_eq_true rfl, Nat.le_of_ble_eq_true rfl, Nat.le_of_ble_eq_true rfl, Nat.le_of_ble_eq_true rfl⟩ dX8_readBase_7 ?_
  refine x_if_eq (pc := 10) (tgt := 14) C dX8_readBase_10 (by decide) (fun q => ?_) (fun q => ?_)
  · rw [if_pos q] at h
    refine x_aload_n (pc := 14) C dX8_readBase_14 rfl rfl ?_
    obtain ⟨k, h⟩ := chk_s h
    have k2 := k
    obtain ⟨u0, σ3, k, h⟩ := bnd_s h
    refine x_callV0 (pc := 15) C (mX8_goOn E l k) cl6 k2 cX8_175 nX8_goOn sX8_goOn rfl rfl (Nat.le_of_ble_eq_true rfl) ⟨Nat.le_of_ble_eq_true rfl, Nat.le_of_ble_eq_true rfl, Nat.le_of_ble_eq_true rfl, Nat.le_of_ble_eq_true rfl⟩ dX8_readBase_15 ?_
    refine x_aload_n (pc := 18) C dX8_readBase_18 rfl rfl ?_
    refine x_aload_n (pc := 19) C dX8_readBase_19 rfl rfl ?_
    obtain ⟨k, h⟩ := chk_s h
    have k2 := k
    obtain ⟨k, h⟩ := chk_s h
    refine x_getR (pc := 20) C fX8_50 rfl k2 k dX8_readBase_20 ?_
    refine x_aload_n (pc := 23) C dX8_readBase_23 rfl rfl ?_
    obtain ⟨k, h⟩ := chk_s h
    refine x_getI (pc := 24) C fX8_189 rfl k dX8_readBase_24 ?_
    refine x_iconst (v := -1) (pc := 27) C dX8_readBase_27 (by decide) ?_
    obtain ⟨k, h⟩ := chk_s h
    have k2 := k
    obtain ⟨v4, σ5, k, h⟩ := bnd_s h
    refine x_callV1 (pc := 28) C (mX8_told E l k) cl6 k2 cX8_206 nX8_told sX8_told rfl rfl (Nat.le_of_ble_eq_true rfl) ⟨Nat.le_of_ble_eq_true rfl, Nat.le_of_ble_eq_true rfl, Nat.le_of_ble_eq_true rfl, Nat.le_of_ble_eq_true rfl⟩ dX8_readBase_28 ?_
    refine x_istore_n (M := [some _, some _, none, none, none]) (pc := 31) C dX8_readBase_31 rfl (by decide) rfl ?_
    refine x_aload_n (pc := 32) C dX8_readBase_32 rfl rfl ?_
    refine x_aload_n (pc := 33) C dX8_readBase_33 rfl rfl ?_
    obtain ⟨k, h⟩ := chk_s h
    have k2 := k
    obtain ⟨k, h⟩ := chk_s h
    refine x_getR (pc := 34) C fX8_47 rfl k2 k dX8_readBase_34 ?_
    refine x_aload_n (pc := 37) C dX8_readBase_37 rfl rfl ?_
    obtain ⟨k, h⟩ := chk_s h
    refine x_getI (pc := 38) C fX8_182 rfl k dX8_readBase_38 ?_
    refine x_iconst (v := -1) (pc := 41) C dX8_readBase_41 (by decide) ?_
    obtain ⟨k, h⟩ := chk_s h
    have k2 := k
    obtain ⟨v6, σ7, k, h⟩ := bnd_s h
    refine x_callV1 (pc := 42) C (mX8_told E l k) cl6 k2 cX8_206 nX8_told sX8_told rfl rfl (Nat.le_of_ble_eq_true rfl) ⟨Nat.le_of_ble_eq_true rfl, Nat.le_of_ble_eq_true rfl, Nat.le_of_ble_eq_true rfl, Nat.le_of_ble_eq_true rfl⟩ dX8_readBase_42 ?_
    refine x_istore_n (M := [some _, some _, some _, none, none]) (pc := 45) C dX8_readBase_45 rfl (by decide) rfl ?_
    refine x_aload_n (pc := 46) C dX8_readBase_46 rfl rfl ?_
    refine x_aload_n (pc := 47) C dX8_readBase_47 rfl rfl ?_
    obtain ⟨k, h⟩ := chk_s h
    have k2 := k
    obtain ⟨k, h⟩ := chk_s h
    refine x_getR (pc := 48) C fX8_47 rfl k2 k dX8_readBase_48 ?_
    refine x_aload_n (pc := 51) C dX8_readBase_51 rfl rfl ?_
    obtain ⟨k, h⟩ := chk_s h
    refine x_getI (pc := 52) C fX8_182 rfl k dX8_readBase_52 ?_
    refine x_iload_n (pc := 55) C dX8_readBase_55 rfl rfl ?_
    obtain ⟨k, h⟩ := chk_s h
    have k2 := k
    obtain ⟨v8, σ9, k, h⟩ := bnd_s h
    refine x_callV1 (pc := 56) C (mX8_seen E l k) cl6 k2 cX8_195 nX8_seen sX8_seen rfl rfl (Nat.le_of_ble_eq_true rfl) ⟨Nat.le_of_ble_eq_true rfl, Nat.le_of_ble_eq_true rfl, Nat.le_of_ble_eq_true rfl, Nat.le_of_ble_eq_true rfl⟩ dX8_readBase_56 ?_
    refine x_istore_n (M := [some _, some _, some _, some _, none]) (pc := 59) C dX8_readBase_59 rfl (by decide) rfl ?_
    refine x_aload_n (pc := 60) C dX8_readBase_60 rfl rfl ?_
    obtain ⟨k, h⟩ := chk_s h
    refine x_getI (pc := 61) C fX8_162 rfl k dX8_readBase_61 ?_
    refine x_if_ne (pc := 64) (tgt := 84) C dX8_readBase_64 (by decide) (fun q => ?_) (fun q => ?_)
    · rw [if_pos q] at h
      refine x_aload_n (pc := 67) C dX8_readBase_67 rfl rfl ?_
      refine x_iload_n (pc := 68) C dX8_readBase_68 rfl rfl ?_
      refine x_iload_n (pc := 69) C dX8_readBase_69 rfl rfl ?_
      refine x_iload_n (pc := 70) C dX8_readBase_70 rfl rfl ?_
      obtain ⟨k, h⟩ := chk_s h
      have k2 := k
      obtain ⟨v10, σ11, k, h⟩ := bnd_s h
      refine x_callV1 (pc := 71) C (mX8_baseOf E l k) cl6 k2 cX8_233 nX8_baseOf sX8_baseOf rfl rfl (Nat.le_of_ble_eq_true rfl) ⟨Nat.le_of_ble_eq_true rfl, Nat.le_of_ble_eq_true rfl, Nat.le_of_ble_eq_true rfl, Nat.le_of_ble_eq_true rfl⟩ dX8_readBase_71 ?_
      refine x_bipush (v := -2) (pc := 74) C dX8_readBase_74 (by decide) ?_
      refine x_icmp_eq (pc := 76) (tgt := 84) C dX8_readBase_76 (by decide) (fun q => ?_) (fun q => ?_)
      · rw [if_pos q] at h
        exact x_sub (tX8_readBase_84 C hr h) (xLe_s (xLe_s (xLe_s (xLe_s (xLe_n xLe_0)))))
      · rw [if_neg q] at h
        refine x_aload_n (pc := 79) C dX8_readBase_79 rfl rfl ?_
        refine x_iconst (v := 3) (pc := 80) C dX8_readBase_80 (by decide) ?_
        obtain ⟨k, h⟩ := chk_s h
        have k2 := k
        obtain ⟨u0, σ12, k, h⟩ := bnd_s h
        refine x_callV0 (pc := 81) C (mX8_wrong E l k) cl6 k2 cX8_171 nX8_wrong sX8_wrong rfl rfl (Nat.le_of_ble_eq_true rfl) ⟨Nat.le_of_ble_eq_true rfl, Nat.le_of_ble_eq_true rfl, Nat.le_of_ble_eq_true rfl, Nat.le_of_ble_eq_true rfl⟩ dX8_readBase_81 ?_
        exact x_sub (tX8_readBase_84 C hr h) (xLe_s (xLe_s (xLe_s (xLe_s (xLe_n xLe_0)))))
    · rw [if_neg q] at h
      exact x_sub (tX8_readBase_84 C hr h) (xLe_s (xLe_s (xLe_s (xLe_s (xLe_n xLe_0)))))
  · rw [if_neg q] at h
    cases h
    exact x_vret C hr dX8_readBase_13
def DX8_readRate_12 (l0 : Nat) (σ : Sg) : Option (Unit × Sg) :=
  chk (ckO σ 6 l0) <|
  chk (ck01 (1 : Int32)) <|
  wlet (pI σ l0 33 (1 : Int32)) fun σ1 =>
  chk (ckO σ1 6 l0) <|
  bnd (DX8_goOn l0 σ1) fun _ σ2 =>
  chk (ckO σ2 6 l0) <|
  bnd (DX8_number l0 (1 : Int32) (99 : Int32) σ2) fun v3 σ4 =>
  chk (ckO σ4 6 l0) <|
  wlet (pI σ4 l0 10 v3) fun σ5 =>
  chk (ckO σ5 6 l0) <|
  bnd (DX8_isEnd l0 σ5) fun v6 σ7 =>
  some ((), σ7)
theorem tX8_readRate_12 {r : Unit} {σ' : Sg} (C : Cx E p s m args meth c RX8 cX8_readRate 1) (hr : meth.sig.returnType = none) {l0 : Nat} {σ : Sg} (h : DX8_readRate_12 l0 σ = some (r, σ')) : Y E p l e (rmA 10 0 0) s m args below meth c none σ' 0 0 1 0 0 σ 12 [some (.ref (ad E l0))] [] := by
  unfold DX8_readRate_12 at h
  refine x_aload_n (pc := 12) C dX8_readRate_12 rfl rfl ?_
  refine x_iconst (v := 1) (pc := 13) C dX8_readRate_13 (by decide) ?_
  obtain ⟨k, h⟩ := chk_s h
  have k2 := k
  obtain ⟨k, h⟩ := chk_s h
  obtain ⟨σ1, e1, h⟩ := wlet_s h
  refine x_putZ (pc := 14) C pX8_237 rfl k2 k dX8_readRate_14 (x_eq e1 ?_)
  refine x_aload_n (pc := 17) C dX8_readRate_17 rfl rfl ?_
  obtain ⟨k, h⟩ := chk_s h
  have k2 := k
  obtain ⟨u0, σ2, k, h⟩ := bnd_s h
  refine x_callV0 (pc := 18) C (mX8_goOn E l k) cl6 k2 cX8_175 nX8_goOn sX8_goOn rfl rfl (Nat.le_of_ble_eq_true rfl) ⟨Nat.le_of_ble_eq_true rfl, Nat.le_of_ble_eq_true rfl, Nat.le_of_ble_eq_true rfl, Nat.le_of_ble_eq_true rfl⟩ dX8_readRate_18 ?_
  refine x_aload_n (pc := 21) C dX8_readRate_21 rfl rfl ?_
  refine x_aload_n (pc := 22) C dX8_readRate_22 rfl rfl ?_
  refine x_iconst (v := 1) (pc := 23) C dX8_readRate_23 (by decide) ?_
  refine x_bipush (v := 99) (pc := 24) C dX8_readRate_24 (by decide) ?_
  obtain ⟨k, h⟩ := chk_s h
  have k2 := k
  obtain ⟨v3, σ4, k, h⟩ := bnd_s h
  refine x_callV1 (pc := 26) C (mX8_number E l k) cl6 k2 cX8_213 nX8_number sX8_number rfl rfl (Nat.le_of_ble_eq_true rfl) ⟨Nat.le_of_ble_eq_true rfl, Nat.le_of_ble_eq_true rfl, Nat.le_of_ble_eq_true rfl, Nat.le_of_ble_eq_true rfl⟩ dX8_readRate_26 ?_
  obtain ⟨k, h⟩ := chk_s h
  obtain ⟨σ5, e1, h⟩ := wlet_s h
  refine x_putI (pc := 29) C pX8_106 rfl k dX8_readRate_29 (x_eq e1 ?_)
  refine x_aload_n (pc := 32) C dX8_readRate_32 rfl rfl ?_
  obtain ⟨k, h⟩ := chk_s h
  have k2 := k
  obtain ⟨v6, σ7, k, h⟩ := bnd_s h
  refine x_callV1 (pc := 33) C (mX8_isEnd E l k) cl6 k2 cX8_217 nX8_isEnd sX8_isEnd rfl rfl (Nat.le_of_ble_eq_true rfl) ⟨Nat.le_of_ble_eq_true rfl, Nat.le_of_ble_eq_true rfl, Nat.le_of_ble_eq_true rfl, Nat.le_of_ble_eq_true rfl⟩ dX8_readRate_33 ?_
  refine x_pop (pc := 36) C dX8_readRate_36 rfl ?_
  cases h
  exact x_vret C hr dX8_readRate_37
def DX8_readRate (l0 : Nat) (σ : Sg) : Option (Unit × Sg) :=
  chk (ckO σ 6 l0) <|
  if (gI σ l0 33) = 0 then
    DX8_readRate_12 l0 σ
  else
    chk (ckO σ 6 l0) <|
    bnd (DX8_wrong l0 (3 : Int32) σ) fun _ σ1 =>
    DX8_readRate_12 l0 σ1
theorem mX8_readRate (E : Ev) (l : Launch) {l0 : Nat} {σ : Sg} {r : Unit} {σ' : Sg} (h : DX8_readRate l0 σ = some (r, σ')) : Mt E l yX8_readRate cX8_readRate 1 none 10 0 0 [.ref (ad E l0)] σ none σ' := by
  refine Mt.ofX (by decide) (Nat.le_of_ble_eq_true rfl) (L0 := [some (.ref (ad E l0))]) (xEntN_ok [.ref (ad E l0)] 1) (fun p e s m args below meth c C hr hn => ?_)
  unfold DX8_readRate at h
  refine x_aload_n (pc := 0) C dX8_readRate_0 rfl rfl ?_
  obtain ⟨k, h⟩ := chk_s h
  refine x_getI (pc := 1) C fX8_237 rfl k dX8_readRate_1 ?_
  refine x_if_eq (pc := 4) (tgt := 12) C dX8_readRate_4 (by decide) (fun q => ?_) (fun q => ?_)
  · rw [if_pos q] at h
    exact x_sub (tX8_readRate_12 C hr h) (xLe_s xLe_0)
  · rw [if_neg q] at h
    refine x_aload_n (pc := 7) C dX8_readRate_7 rfl rfl ?_
    refine x_iconst (v := 3) (pc := 8) C dX8_readRate_8 (by decide) ?_
    obtain ⟨k, h⟩ := chk_s h
    have k2 := k
    obtain ⟨u0, σ1, k, h⟩ := bnd_s h
    refine x_callV0 (pc := 9) C (mX8_wrong E l k) cl6 k2 cX8_171 nX8_wrong sX8_wrong rfl rfl (Nat.le_of_ble_eq_true rfl) ⟨Nat.le_of_ble_eq_true rfl, Nat.le_of_ble_eq_true rfl, Nat.le_of_ble_eq_true rfl, Nat.le_of_ble_eq_true rfl⟩ dX8_readRate_9 ?_
    exact x_sub (tX8_readRate_12 C hr h) (xLe_s xLe_0)
def DX8_readTicket_231 (σ : Sg) : Option (Unit × Sg) :=
  some ((), σ)
theorem tX8_readTicket_231 {r : Unit} {σ' : Sg} (C : Cx E p s m args meth c RX8 cX8_readTicket 9) (hr : meth.sig.returnType = none) {σ : Sg} (h : DX8_readTicket_231  σ = some (r, σ')) : Y E p l e (rmA 10 0 0) s m args below meth c none σ' 0 0 9 0 0 σ 231 [none, none, none, none, none, none, none, none, none] [] := by
  unfold DX8_readTicket_231 at h
  cases h
  exact x_vret C hr dX8_readTicket_231
def DX8_readTicket_220 (K116 : Nat → Int32 → Int32 → Int32 → Int32 → Int32 → Sg → Option (Unit × Sg)) (l0 : Nat) (l1 : Int32) (l2 : Int32) (l4 : Int32) (l5 : Int32) (l6 : Int32) (l7 : Int32) (l8 : Int32) (σ : Sg) : Option (Unit × Sg) :=
  chk (ckO σ 6 l0) <|
  bnd (DX8_goOn l0 σ) fun _ σ1 =>
  chk (ckO σ1 6 l0) <|
  if (gI σ1 l0 29) = 0 then
    chk (ckO σ1 6 l0) <|
    chk (ckV (gR σ1 l0 37)) <|
    chk (ckI σ1 (gR σ1 l0 37) (((8 : Int32) * l1) + l6)) <|
    wlet (wI σ1 (gR σ1 l0 37) (((8 : Int32) * l1) + l6).toNatClampNeg l7) fun σ2 =>
    chk (ckO σ2 6 l0) <|
    chk (ckV (gR σ2 l0 17)) <|
    chk (ckI σ2 (gR σ2 l0 17) (((8 : Int32) * l1) + l6)) <|
    wlet (wI σ2 (gR σ2 l0 17) (((8 : Int32) * l1) + l6).toNatClampNeg l5) fun σ3 =>
    chk (ckO σ3 6 l0) <|
    chk (ckV (gR σ3 l0 18)) <|
    chk (ckI σ3 (gR σ3 l0 18) (((8 : Int32) * l1) + l6)) <|
    wlet (wI σ3 (gR σ3 l0 18) (((8 : Int32) * l1) + l6).toNatClampNeg l8) fun σ4 =>
    K116 l0 l1 l2 l4 l8 (l6 + (1 : Int32)) σ4
  else
    DX8_readTicket_231 σ1
theorem tX8_readTicket_220 {r : Unit} {σ' : Sg} (C : Cx E p s m args meth c RX8 cX8_readTicket 9) (hr : meth.sig.returnType = none) {K116 : Nat → Int32 → Int32 → Int32 → Int32 → Int32 → Sg → Option (Unit × Sg)} (hK116 : ∀ (l0 : Nat) (l1 : Int32) (l2 : Int32) (l4 : Int32) (l5 : Int32) (l6 : Int32) (σ : Sg), K116 l0 l1 l2 l4 l5 l6 σ = some (r, σ') → Y E p l e (rmA 10 0 0) s m args below meth c none σ' 0 0 9 0 0 σ 116 [some (.ref (ad E l0)), some (.int l1), some (.int l2), none, some (.int l4), some (.int l5), some (.int l6), none, none] []) {l0 : Nat} {l1 : Int32} {l2 : Int32} {l4 : Int32} {l5 : Int32} {l6 : Int32} {l7 : Int32} {l8 : Int32} {σ : Sg} (h : DX8_readTicket_220 K116 l0 l1 l2 l4 l5 l6 l7 l8 σ = some (r, σ')) : Y E p l e (rmA 10 0 0) s m args below meth c none σ' 0 0 9 0 0 σ 220 [some (.ref (ad E l0)), some (.int l1), some (.int l2), none, some (.int l4), some (.int l5), some (.int l6), some (.int l7), some (.int l8)] [] := by
  unfold DX8_readTicket_220 at h
  refine x_aload_n (pc := 220) C dX8_readTicket_220 rfl rfl ?_
  obtain ⟨k, h⟩ := chk_s h
  have k2 := k
  obtain ⟨u0, σ1, k, h⟩ := bnd_s h
  refine x_callV0 (pc := 221) C (mX8_goOn E l k) cl6 k2 cX8_175 nX8_goOn sX8_goOn rfl rfl (Nat.le_of_ble_eq_true rfl) ⟨Nat.le_of_ble_eq_true rfl, Nat.le_of_ble_eq_true rfl, Nat.le_of_ble_eq_true rfl, Nat.le_of_ble_eq_true rfl⟩ dX8_readTicket_221 ?_
  refine x_aload_n (pc := 224) C dX8_readTicket_224 rfl rfl ?_
  obtain ⟨k, h⟩ := chk_s h
  refine x_getI (pc := 225) C fX8_162 rfl k dX8_readTicket_225 ?_
  refine x_if_eq (pc := 228) (tgt := 232) C dX8_readTicket_228 (by decide) (fun q => ?_) (fun q => ?_)
  · rw [if_pos q] at h
    refine x_aload_n (pc := 232) C dX8_readTicket_232 rfl rfl ?_
    obtain ⟨k, h⟩ := chk_s h
    have k2 := k
    obtain ⟨k, h⟩ := chk_s h
    refine x_getR (pc := 233) C fX8_56 rfl k2 k dX8_readTicket_233 ?_
    refine x_bipush (v := 8) (pc := 236) C dX8_readTicket_236 (by decide) ?_
    refine x_iload_n (pc := 238) C dX8_readTicket_238 rfl rfl ?_
    refine x_imul (pc := 239) C dX8_readTicket_239 ?_
    refine x_iload (pc := 240) C dX8_readTicket_240 rfl ?_
    refine x_iadd (pc := 242) C dX8_readTicket_242 ?_
    refine x_iload (pc := 243) C dX8_readTicket_243 rfl ?_
    obtain ⟨k, h⟩ := chk_s h
    obtain ⟨σ2, e1, h⟩ := wlet_s h
    refine x_iast (pc := 245) C k dX8_readTicket_245 (x_eq e1 ?_)
    refine x_aload_n (pc := 246) C dX8_readTicket_246 rfl rfl ?_
    obtain ⟨k, h⟩ := chk_s h
    have k2 := k
    obtain ⟨k, h⟩ := chk_s h
    refine x_getR (pc := 247) C fX8_28 rfl k2 k dX8_readTicket_247 ?_
    refine x_bipush (v := 8) (pc := 250) C dX8_readTicket_250 (by decide) ?_
    refine x_iload_n (pc := 252) C dX8_readTicket_252 rfl rfl ?_
    refine x_imul (pc := 253) C dX8_readTicket_253 ?_
    refine x_iload (pc := 254) C dX8_readTicket_254 rfl ?_
    refine x_iadd (pc := 256) C dX8_readTicket_256 ?_
    refine x_iload (pc := 257) C dX8_readTicket_257 rfl ?_
    obtain ⟨k, h⟩ := chk_s h
    obtain ⟨σ3, e1, h⟩ := wlet_s h
    refine x_iast (pc := 259) C k dX8_readTicket_259 (x_eq e1 ?_)
    refine x_aload_n (pc := 260) C dX8_readTicket_260 rfl rfl ?_
    obtain ⟨k, h⟩ := chk_s h
    have k2 := k
    obtain ⟨k, h⟩ := chk_s h
    refine x_getR (pc := 261) C fX8_31 rfl k2 k dX8_readTicket_261 ?_
    refine x_bipush (v := 8) (pc := 264) C dX8_readTicket_264 (by decide) ?_
    refine x_iload_n (pc := 266) C dX8_readTicket_266 rfl rfl ?_
    refine x_imul (pc := 267) C dX8_readTicket_267 ?_
    refine x_iload (pc := 268) C dX8_readTicket_268 rfl ?_
    refine x_iadd (pc := 270) C dX8_readTicket_270 ?_
    refine x_iload (pc := 271) C dX8_readTicket_271 rfl ?_
    obtain ⟨k, h⟩ := chk_s h
    obtain ⟨σ4, e1, h⟩ := wlet_s h
    refine x_iast (pc := 273) C k dX8_readTicket_273 (x_eq e1 ?_)
    refine x_iload (pc := 274) C dX8_readTicket_274 rfl ?_
    refine x_istore (M := [some _, some _, some _, none, some _, some _, some _, some _, some _]) (pc := 276) C dX8_readTicket_276 (by decide) rfl ?_
    refine x_iinc (v := 1) (M := [some _, some _, some _, none, some _, some _, some _, some _, some _]) (pc := 278) C dX8_readTicket_278 rfl (by decide) (by decide) rfl ?_
    refine x_goto (tgt := 116) (pc := 281) C dX8_readTicket_281 (by decide) ?_
    exact x_sub (hK116 _ _ _ _ _ _ _ h) (xLe_s (xLe_s (xLe_s (xLe_n (xLe_s (xLe_s (xLe_s (xLe_n (xLe_n xLe_0)))))))))
  · rw [if_neg q] at h
    exact x_sub (tX8_readTicket_231 C hr h) (xLe_n (xLe_n (xLe_n (xLe_n (xLe_n (xLe_n (xLe_n (xLe_n (xLe_n xLe_0)))))))))
def DX8_readTicket_170 (K116 : Nat → Int32 → Int32 → Int32 → Int32 → Int32 → Sg → Option (Unit × Sg)) (l0 : Nat) (l1 : Int32) (l2 : Int32) (l4 : Int32) (l5 : Int32) (l6 : Int32) (l7 : Int32) (σ : Sg) : Option (Unit × Sg) :=
  chk (ckO σ 6 l0) <|
  bnd (DX8_goOn l0 σ) fun _ σ1 =>
  chk (ckO σ1 6 l0) <|
  chk (ckV (gR σ1 l0 34)) <|
  chk (ckO σ1 6 l0) <|
  chk (ckO σ1 6 l0) <|
  bnd (DX8_seen l0 (gR σ1 l0 34) (gI σ1 l0 3) l5 σ1) fun v2 σ3 =>
  chk (ckO σ3 6 l0) <|
  if (gI σ3 l0 29) = 0 then
    chk (ckO σ3 6 l0) <|
    chk (ckV (gR σ3 l0 19)) <|
    chk (ckI σ3 (gR σ3 l0 19) (((12 : Int32) * l5) + v2)) <|
    if (aI σ3 (gR σ3 l0 19) (((12 : Int32) * l5) + v2).toNatClampNeg) < (1000000 : Int32) then
      DX8_readTicket_220 K116 l0 l1 l2 l4 l5 l6 l7 v2 σ3
    else
      chk (ckO σ3 6 l0) <|
      bnd (DX8_wrong l0 (1 : Int32) σ3) fun _ σ4 =>
      DX8_readTicket_220 K116 l0 l1 l2 l4 l5 l6 l7 v2 σ4
  else
    DX8_readTicket_220 K116 l0 l1 l2 l4 l5 l6 l7 v2 σ3
theorem tX8_readTicket_170 {r : Unit} {σ' : Sg} (C : Cx E p s m args meth c RX8 cX8_readTicket 9) (hr : meth.sig.returnType = none) {K116 : Nat → Int32 → Int32 → Int32 → Int32 → Int32 → Sg → Option (Unit × Sg)} (hK116 : ∀ (l0 : Nat) (l1 : Int32) (l2 : Int32) (l4 : Int32) (l5 : Int32) (l6 : Int32) (σ : Sg), K116 l0 l1 l2 l4 l5 l6 σ = some (r, σ') → Y E p l e (rmA 10 0 0) s m args below meth c none σ' 0 0 9 0 0 σ 116 [some (.ref (ad E l0)), some (.int l1), some (.int l2), none, some (.int l4), some (.int l5), some (.int l6), none, none] []) {l0 : Nat} {l1 : Int32} {l2 : Int32} {l4 : Int32} {l5 : Int32} {l6 : Int32} {l7 : Int32} {σ : Sg} (h : DX8_readTicket_170 K116 l0 l1 l2 l4 l5 l6 l7 σ = some (r, σ')) : Y E p l e (rmA 10 0 0) s m args below meth c none σ' 0 0 9 0 0 σ 170 [some (.ref (ad E l0)), some (.int l1), some (.int l2), none, some (.int l4), some (.int l5), some (.int l6), some (.int l7), none] [] := by
  unfold DX8_readTicket_170 at h
  refine x_aload_n (pc := 170) C dX8_readTicket_170 rfl rfl ?_
  obtain ⟨k, h⟩ := chk_s h
  have k2 := k
  obtain ⟨u0, σ1, k, h⟩ := bnd_s h
  refine x_callV0 (pc := 171) C (mX8_goOn E l k) cl6 k2 cX8_175 nX8_goOn sX8_goOn rfl rfl (Nat.le_of_ble_eq_true rfl) ⟨Nat.le_of_ble_eq_true rfl, Nat.le_of_ble_eq_true rfl, Nat.le_of_ble_eq_true rfl, Nat.le_of_ble_eq_true rfl⟩ dX8_readTicket_171 ?_
  refine x_aload_n (pc := 174) C dX8_readTicket_174 rfl rfl ?_
  refine x_aload_n (pc := 175) C dX8_readTicket_175 rfl rfl ?_
  obtain ⟨k, h⟩ := chk_s h
  have k2 := k
  obtain ⟨k, h⟩ := chk_s h
  refine x_getR (pc := 176) C fX8_47 rfl k2 k dX8_readTicket_176 ?_
  refine x_aload_n (pc := 179) C dX8_readTicket_179 rfl rfl ?_
  obtain ⟨k, h⟩ := chk_s h
  refine x_getI (pc := 180) C fX8_182 rfl k dX8_readTicket_180 ?_
  refine x_iload (pc := 183) C dX8_readTicket_183 rfl ?_
  obtain ⟨k, h⟩ := chk_s h
  have k2 := k
  obtain ⟨v2, σ3, k, h⟩ := bnd_s h
  refine x_callV1 (pc := 185) C (mX8_seen E l k) cl6 k2 cX8_195 nX8_seen sX8_seen rfl rfl (Nat.le_of_ble_eq_true rfl) ⟨Nat.le_of_ble_eq_true rfl, Nat.le_of_ble_eq_true rfl, Nat.le_of_ble_eq_true rfl, Nat.le_of_ble_eq_true rfl⟩ dX8_readTicket_185 ?_
  refine x_istore (M := [some _, some _, some _, none, some _, some _, some _, some _, some _]) (pc := 188) C dX8_readTicket_188 (by decide) rfl ?_
  refine x_aload_n (pc := 190) C dX8_readTicket_190 rfl rfl ?_
  obtain ⟨k, h⟩ := chk_s h
  refine x_getI (pc := 191) C fX8_162 rfl k dX8_readTicket_191 ?_
  refine x_if_ne (pc := 194) (tgt := 220) C dX8_readTicket_194 (by decide) (fun q => ?_) (fun q => ?_)
  · rw [if_pos q] at h
    refine x_aload_n (pc := 197) C dX8_readTicket_197 rfl rfl ?_
    obtain ⟨k, h⟩ := chk_s h
    have k2 := k
    obtain ⟨k, h⟩ := chk_s h
    refine x_getR (pc := 198) C fX8_34 rfl k2 k dX8_readTicket_198 ?_
    refine x_bipush (v := 12) (pc := 201) C dX8_readTicket_201 (by decide) ?_
    refine x_iload (pc := 203) C dX8_readTicket_203 rfl ?_
    refine x_imul (pc := 205) C dX8_readTicket_205 ?_
    refine x_iload (pc := 206) C dX8_readTicket_206 rfl ?_
    refine x_iadd (pc := 208) C dX8_readTicket_208 ?_
    obtain ⟨k, h⟩ := chk_s h
    refine x_iald (pc := 209) C k dX8_readTicket_209 ?_
    refine x_ldc (pc := 210) C kX8_245 dX8_readTicket_210 ?_
    refine x_icmp_lt (pc := 212) (tgt := 220) C dX8_readTicket_212 (by decide) (fun q => ?_) (fun q => ?_)
    · rw [if_pos q] at h
      exact x_sub (tX8_readTicket_220 C hr hK116 h) (xLe_s (xLe_s (xLe_s (xLe_n (xLe_s (xLe_s (xLe_s (xLe_s (xLe_s xLe_0)))))))))
    · rw [if_neg q] at h
      refine x_aload_n (pc := 215) C dX8_readTicket_215 rfl rfl ?_
      refine x_iconst (v := 1) (pc := 216) C dX8_readTicket_216 (by decide) ?_
      obtain ⟨k, h⟩ := chk_s h
      have k2 := k
      obtain ⟨u0, σ4, k, h⟩ := bnd_s h
      refine x_callV0 (pc := 217) C (mX8_wrong E l k) cl6 k2 cX8_171 nX8_wrong sX8_wrong rfl rfl (Nat.le_of_ble_eq_true rfl) ⟨Nat.le_of_ble_eq_true rfl, Nat.le_of_ble_eq_true rfl, Nat.le_of_ble_eq_true rfl, Nat.le_of_ble_eq_true rfl⟩ dX8_readTicket_217 ?_
      exact x_sub (tX8_readTicket_220 C hr hK116 h) (xLe_s (xLe_s (xLe_s (xLe_n (xLe_s (xLe_s (xLe_s (xLe_s (xLe_s xLe_0)))))))))
  · rw [if_neg q] at h
    exact x_sub (tX8_readTicket_220 C hr hK116 h) (xLe_s (xLe_s (xLe_s (xLe_n (xLe_s (xLe_s (xLe_s (xLe_s (xLe_s xLe_0)))))))))
def DX8_readTicket_136 (K116 : Nat → Int32 → Int32 → Int32 → Int32 → Int32 → Sg → Option (Unit × Sg)) (l0 : Nat) (l1 : Int32) (l2 : Int32) (l4 : Int32) (l5 : Int32) (l6 : Int32) (σ : Sg) : Option (Unit × Sg) :=
  chk (ckO σ 6 l0) <|
  chk (ckV (gR σ l0 35)) <|
  chk (ckO σ 6 l0) <|
  chk (ckO σ 6 l0) <|
  bnd (DX8_seen l0 (gR σ l0 35) (gI σ l0 4) (-1 : Int32) σ) fun v1 σ2 =>
  chk (ckO σ2 6 l0) <|
  if (gI σ2 l0 29) = 0 then
    if l6 = (8 : Int32) then
      chk (ckO σ2 6 l0) <|
      bnd (DX8_wrong l0 (2 : Int32) σ2) fun _ σ3 =>
      DX8_readTicket_170 K116 l0 l1 l2 l4 l5 l6 v1 σ3
    else
      DX8_readTicket_170 K116 l0 l1 l2 l4 l5 l6 v1 σ2
  else
    DX8_readTicket_170 K116 l0 l1 l2 l4 l5 l6 v1 σ2
theorem tX8_readTicket_136 {r : Unit} {σ' : Sg} (C : Cx E p s m args meth c RX8 cX8_readTicket 9) (hr : meth.sig.returnType = none) {K116 : Nat → Int32 → Int32 → Int32 → Int32 → Int32 → Sg → Option (Unit × Sg)} (hK116 : ∀ (l0 : Nat) (l1 : Int32) (l2 : Int32) (l4 : Int32) (l5 : Int32) (l6 : Int32) (σ : Sg), K116 l0 l1 l2 l4 l5 l6 σ = some (r, σ') → Y E p l e (rmA 10 0 0) s m args below meth c none σ' 0 0 9 0 0 σ 116 [some (.ref (ad E l0)), some (.int l1), some (.int l2), none, some (.int l4), some (.int l5), some (.int l6), none, none] []) {l0 : Nat} {l1 : Int32} {l2 : Int32} {l4 : Int32} {l5 : Int32} {l6 : Int32} {σ : Sg} (h : DX8_readTicket_136 K116 l0 l1 l2 l4 l5 l6 σ = some (r, σ')) : Y E p l e (rmA 10 0 0) s m args below meth c none σ' 0 0 9 0 0 σ 136 [some (.ref (ad E l0)), some (.int l1), some (.int l2), none, some (.int l4), some (.int l5), some (.int l6), none, none] [] := by
  unfold DX8_readTicket_136 at h
  refine x_aload_n (pc := 136) C dX8_readTicket_136 rfl rfl ?_
  refine x_aload_n (pc := 137) C dX8_readTicket_137 rfl rfl ?_
  obtain ⟨k, h⟩ := chk_s h
  have k2 := k
  obtain ⟨k, h⟩ := chk_s h
  refine x_getR (pc := 138) C fX8_50 rfl k2 k dX8_readTicket_138 ?_
  refine x_aload_n (pc := 141) C dX8_readTicket_141 rfl rfl ?_
  obtain ⟨k, h⟩ := chk_s h
  refine x_getI (pc := 142) C fX8_189 rfl k dX8_readTicket_142 ?_
  refine x_iconst (v := -1) (pc := 145) C dX8_readTicket_145 (by decide) ?_
  obtain ⟨k, h⟩ := chk_s h
  have k2 := k
  obtain ⟨v1, σ2, k, h⟩ := bnd_s h
  refine x_callV1 (pc := 146) C (mX8_seen E l k) cl6 k2 cX8_195 nX8_seen sX8_seen rfl rfl (Nat.le_of_ble_eq_true rfl) ⟨Nat.le_of_ble_eq_true rfl, Nat.le_of_ble_eq_true rfl, Nat.le_of_ble_eq_true rfl, Nat.le_of_ble_eq_true rfl⟩ dX8_readTicket_146 ?_
  refine x_istore (M := [some _, some _, some _, none, some _, some _, some _, some _, none]) (pc := 149) C dX8_readTicket_149 (by decide) rfl ?_
  refine x_aload_n (pc := 151) C dX8_readTicket_151 rfl rfl ?_
  obtain ⟨k, h⟩ := chk_s h
  refine x_getI (pc := 152) C fX8_162 rfl k dX8_readTicket_152 ?_
  refine x_if_ne (pc := 155) (tgt := 170) C dX8_readTicket_155 (by decide) (fun q => ?_) (fun q => ?_)
  · rw [if_pos q] at h
    refine x_iload (pc := 158) C dX8_readTicket_158 rfl ?_
    refine x_bipush (v := 8) (pc := 160) C dX8_readTicket_160 (by decide) ?_
    refine x_icmp_ne (pc := 162) (tgt := 170) C dX8_readTicket_162 (by decide) (fun q => ?_) (fun q => ?_)
    · rw [if_pos q] at h
      refine x_aload_n (pc := 165) C dX8_readTicket_165 rfl rfl ?_
      refine x_iconst (v := 2) (pc := 166) C dX8_readTicket_166 (by decide) ?_
      obtain ⟨k, h⟩ := chk_s h
      have k2 := k
      obtain ⟨u0, σ3, k, h⟩ := bnd_s h
      refine x_callV0 (pc := 167) C (mX8_wrong E l k) cl6 k2 cX8_171 nX8_wrong sX8_wrong rfl rfl (Nat.le_of_ble_eq_true rfl) ⟨Nat.le_of_ble_eq_true rfl, Nat.le_of_ble_eq_true rfl, Nat.le_of_ble_eq_true rfl, Nat.le_of_ble_eq_true rfl⟩ dX8_readTicket_167 ?_
      exact x_sub (tX8_readTicket_170 C hr hK116 h) (xLe_s (xLe_s (xLe_s (xLe_n (xLe_s (xLe_s (xLe_s (xLe_s (xLe_n xLe_0)))))))))
    · rw [if_neg q] at h
      exact x_sub (tX8_readTicket_170 C hr hK116 h) (xLe_s (xLe_s (xLe_s (xLe_n (xLe_s (xLe_s (xLe_s (xLe_s (xLe_n xLe_0)))))))))
  · rw [if_neg q] at h
    exact x_sub (tX8_readTicket_170 C hr hK116 h) (xLe_s (xLe_s (xLe_s (xLe_n (xLe_s (xLe_s (xLe_s (xLe_s (xLe_n xLe_0)))))))))
def DX8_readTicket_284 (l0 : Nat) (l1 : Int32) (l2 : Int32) (l4 : Int32) (l6 : Int32) (σ : Sg) : Option (Unit × Sg) :=
  chk (ckO σ 6 l0) <|
  bnd (DX8_isEnd l0 σ) fun v1 σ2 =>
  if v1 = 0 then
    some ((), σ2)
  else
    chk (ckO σ2 6 l0) <|
    chk (ckV (gR σ2 l0 16)) <|
    chk (ckI σ2 (gR σ2 l0 16) ((4 : Int32) * l1)) <|
    wlet (wI σ2 (gR σ2 l0 16) ((4 : Int32) * l1).toNatClampNeg l2) fun σ3 =>
    chk (ckO σ3 6 l0) <|
    chk (ckV (gR σ3 l0 16)) <|
    chk (ckI σ3 (gR σ3 l0 16) (((4 : Int32) * l1) + (1 : Int32))) <|
    wlet (wI σ3 (gR σ3 l0 16) (((4 : Int32) * l1) + (1 : Int32)).toNatClampNeg l4) fun σ4 =>
    chk (ckO σ4 6 l0) <|
    chk (ckV (gR σ4 l0 16)) <|
    chk (ckI σ4 (gR σ4 l0 16) (((4 : Int32) * l1) + (2 : Int32))) <|
    wlet (wI σ4 (gR σ4 l0 16) (((4 : Int32) * l1) + (2 : Int32)).toNatClampNeg l6) fun σ5 =>
    chk (ckO σ5 6 l0) <|
    chk (ckV (gR σ5 l0 16)) <|
    chk (ckO σ5 6 l0) <|
    chk (ckV (gR σ5 l0 37)) <|
    chk (ckI σ5 (gR σ5 l0 37) ((8 : Int32) * l1)) <|
    chk (ckI σ5 (gR σ5 l0 16) (((4 : Int32) * l1) + (3 : Int32))) <|
    wlet (wI σ5 (gR σ5 l0 16) (((4 : Int32) * l1) + (3 : Int32)).toNatClampNeg (aI σ5 (gR σ5 l0 37) ((8 : Int32) * l1).toNatClampNeg)) fun σ6 =>
    chk (ckO σ6 6 l0) <|
    chk (ckO σ6 6 l0) <|
    wlet (pI σ6 l0 9 ((gI σ6 l0 9) + (1 : Int32))) fun σ7 =>
    some ((), σ7)
theorem tX8_readTicket_284 {r : Unit} {σ' : Sg} (C : Cx E p s m args meth c RX8 cX8_readTicket 9) (hr : meth.sig.returnType = none) {l0 : Nat} {l1 : Int32} {l2 : Int32} {l4 : Int32} {l6 : Int32} {σ : Sg} (h : DX8_readTicket_284 l0 l1 l2 l4 l6 σ = some (r, σ')) : Y E p l e (rmA 10 0 0) s m args below meth c none σ' 0 0 9 0 0 σ 284 [some (.ref (ad E l0)), some (.int l1), some (.int l2), none, some (.int l4), none, some (.int l6), none, none] [] := by
  unfold DX8_readTicket_284 at h
  refine x_aload_n (pc := 284) C dX8_readTicket_284 rfl rfl ?_
  obtain ⟨k, h⟩ := chk_s h
  have k2 := k
  obtain ⟨v1, σ2, k, h⟩ := bnd_s h
  refine x_callV1 (pc := 285) C (mX8_isEnd E l k) cl6 k2 cX8_217 nX8_isEnd sX8_isEnd rfl rfl (Nat.le_of_ble_eq_true rfl) ⟨Nat.le_of_ble_eq_true rfl, Nat.le_of_ble_eq_true rfl, Nat.le_of_ble_eq_true rfl, Nat.le_of_ble_eq_true rfl⟩ dX8_readTicket_285 ?_
  refine x_if_ne (pc := 288) (tgt := 292) C dX8_readTicket_288 (by decide) (fun q => ?_) (fun q => ?_)
  · rw [if_pos q] at h
    cases h
    exact x_vret C hr dX8_readTicket_291
  · rw [if_neg q] at h
    refine x_aload_n (pc := 292) C dX8_readTicket_292 rfl rfl ?_
    obtain ⟨k, h⟩ := chk_s h
    have k2 := k
    obtain ⟨k, h⟩ := chk_s h
    refine x_getR (pc := 293) C fX8_25 rfl k2 k dX8_readTicket_293 ?_
    refine x_iconst (v := 4) (pc := 296) C dX8_readTicket_296 (by decide) ?_
    refine x_iload_n (pc := 297) C dX8_readTicket_297 rfl rfl ?_
    refine x_imul (pc := 298) C dX8_readTicket_298 ?_
    refine x_iload_n (pc := 299) C dX8_readTicket_299 rfl rfl ?_
    obtain ⟨k, h⟩ := chk_s h
    obtain ⟨σ3, e1, h⟩ := wlet_s h
    refine x_iast (pc := 300) C k dX8_readTicket_300 (x_eq e1 ?_)
    refine x_aload_n (pc := 301) C dX8_readTicket_301 rfl rfl ?_
    obtain ⟨k, h⟩ := chk_s h
    have k2 := k
    obtain ⟨k, h⟩ := chk_s h
    refine x_getR (pc := 302) C fX8_25 rfl k2 k dX8_readTicket_302 ?_
    refine x_iconst (v := 4) (pc := 305) C dX8_readTicket_305 (by decide) ?_
    refine x_iload_n (pc := 306) C dX8_readTicket_306 rfl rfl ?_
    refine x_imul (pc := 307) C dX8_readTicket_307 ?_
    refine x_iconst (v := 1) (pc := 308) C dX8_readTicket_308 (by decide) ?_
    refine x_iadd (pc := 309) C dX8_readTicket_309 ?_
    refine x_iload (pc := 310) C dX8_readTicket_310 rfl ?_
    obtain ⟨k, h⟩ := chk_s h
    obtain ⟨σ4, e1, h⟩ := wlet_s h
    refine x_iast (pc := 312) C k dX8_readTicket_312 (x_eq e1 ?_)
    refine x_aload_n (pc := 313) C dX8_readTicket_313 rfl rfl ?_
    obtain ⟨k, h⟩ := chk_s h
    have k2 := k
    obtain ⟨k, h⟩ := chk_s h
    refine x_getR (pc := 314) C fX8_25 rfl k2 k dX8_readTicket_314 ?_
    refine x_iconst (v := 4) (pc := 317) C dX8_readTicket_317 (by decide) ?_
    refine x_iload_n (pc := 318) C dX8_readTicket_318 rfl rfl ?_
    refine x_imul (pc := 319) C dX8_readTicket_319 ?_
    refine x_iconst (v := 2) (pc := 320) C dX8_readTicket_320 (by decide) ?_
    refine x_iadd (pc := 321) C dX8_readTicket_321 ?_
    refine x_iload (pc := 322) C dX8_readTicket_322 rfl ?_
    obtain ⟨k, h⟩ := chk_s h
    obtain ⟨σ5, e1, h⟩ := wlet_s h
    refine x_iast (pc := 324) C k dX8_readTicket_324 (x_eq e1 ?_)
    refine x_aload_n (pc := 325) C dX8_readTicket_325 rfl rfl ?_
    obtain ⟨k, h⟩ := chk_s h
    have k2 := k
    obtain ⟨k, h⟩ := chk_s h
    refine x_getR (pc := 326) C fX8_25 rfl k2 k dX8_readTicket_326 ?_
    refine x_iconst (v := 4) (pc := 329) C dX8_readTicket_329 (by decide) ?_
    refine x_iload_n (pc := 330) C dX8_readTicket_330 rfl rfl ?_
    refine x_imul (pc := 331) C dX8_readTicket_331 ?_
    refine x_iconst (v := 3) (pc := 332) C dX8_readTicket_332 (by decide) ?_
    refine x_iadd (pc := 333) C dX8_readTicket_333 ?_
    refine x_aload_n (pc := 334) C dX8_readTicket_334 rfl rfl ?_
    obtain ⟨k, h⟩ := chk_s h
    have k2 := k
    obtain ⟨k, h⟩ := chk_s h
    refine x_getR (pc := 335) C fX8_56 rfl k2 k dX8_readTicket_335 ?_
    refine x_bipush (v := 8) (pc := 338) C dX8_readTicket_338 (by decide) ?_
    refine x_iload_n (pc := 340) C dX8_readTicket_340 rfl rfl ?_
    refine x_imul (pc := 341) C dX8_readTicket_341 ?_
    obtain ⟨k, h⟩ := chk_s h
    refine x_iald (pc := 342) C k dX8_readTicket_342 ?_
    obtain ⟨k, h⟩ := chk_s h
    obtain ⟨σ6, e1, h⟩ := wlet_s h
    refine x_iast (pc := 343) C k dX8_readTicket_343 (x_eq e1 ?_)
    refine x_aload_n (pc := 344) C dX8_readTicket_344 rfl rfl ?_
    refine x_dup (pc := 345) C dX8_readTicket_345 rfl ?_
    obtain ⟨k, h⟩ := chk_s h
    refine x_getI (pc := 346) C fX8_192 rfl k dX8_readTicket_346 ?_
    refine x_iconst (v := 1) (pc := 349) C dX8_readTicket_349 (by decide) ?_
    refine x_iadd (pc := 350) C dX8_readTicket_350 ?_
    obtain ⟨k, h⟩ := chk_s h
    obtain ⟨σ7, e1, h⟩ := wlet_s h
    refine x_putI (pc := 351) C pX8_192 rfl k dX8_readTicket_351 (x_eq e1 ?_)
    cases h
    exact x_vret C hr dX8_readTicket_354
def DX8_readTicket_116 : Nat → Nat → Int32 → Int32 → Int32 → Int32 → Int32 → Sg → Option (Unit × Sg)
  | 0, _, _, _, _, _, _, _ => none
  | n + 1, l0, l1, l2, l4, l5, l6, σ =>
    chk (ckO σ 6 l0) <|
    if (gI σ l0 29) = 0 then
      if l6 = 0 then
        DX8_readTicket_136 (DX8_readTicket_116 n) l0 l1 l2 l4 l5 l6 σ
      else
        chk (ckO σ 6 l0) <|
        if (gI σ l0 26) = (2 : Int32) then
          DX8_readTicket_284 l0 l1 l2 l4 l6 σ
        else
          DX8_readTicket_136 (DX8_readTicket_116 n) l0 l1 l2 l4 l5 l6 σ
    else
      DX8_readTicket_284 l0 l1 l2 l4 l6 σ
theorem tX8_readTicket_116 {r : Unit} {σ' : Sg} (C : Cx E p s m args meth c RX8 cX8_readTicket 9) (hr : meth.sig.returnType = none) : ∀ (n : Nat) (l0 : Nat) (l1 : Int32) (l2 : Int32) (l4 : Int32) (l5 : Int32) (l6 : Int32) (σ : Sg) (h : DX8_readTicket_116 n l0 l1 l2 l4 l5 l6 σ = some (r, σ')), Y E p l e (rmA 10 0 0) s m args below meth c none σ' 0 0 9 0 0 σ 116 [some (.ref (ad E l0)), some (.int l1), some (.int l2), none, some (.int l4), some (.int l5), some (.int l6), none, none] [] := by
  intro n
  induction n with
  | zero => intro l0 l1 l2 l4 l5 l6 σ h; cases h
  | succ n ih =>
    intro l0 l1 l2 l4 l5 l6 σ h
    unfold DX8_readTicket_116 at h
    refine x_aload_n (pc := 116) C dX8_readTicket_116 rfl rfl ?_
    obtain ⟨k, h⟩ := chk_s h
    refine x_getI (pc := 117) C fX8_162 rfl k dX8_readTicket_117 ?_
    refine x_if_ne (pc := 120) (tgt := 284) C dX8_readTicket_120 (by decide) (fun q => ?_) (fun q => ?_)
    · rw [if_pos q] at h
      refine x_iload (pc := 123) C dX8_readTicket_123 rfl ?_
      refine x_if_eq (pc := 125) (tgt := 136) C dX8_readTicket_125 (by decide) (fun q => ?_) (fun q => ?_)
      · rw [if_pos q] at h
        exact x_sub (tX8_readTicket_136 C hr ih h) (xLe_s (xLe_s (xLe_s (xLe_n (xLe_s (xLe_s (xLe_s (xLe_n (xLe_n xLe_0)))))))))
      · rw [if_neg q] at h
        refine x_aload_n (pc := 128) C dX8_readTicket_128 rfl rfl ?_
        obtain ⟨k, h⟩ := chk_s h
        refine x_getI (pc := 129) C fX8_131 rfl k dX8_readTicket_129 ?_
        refine x_iconst (v := 2) (pc := 132) C dX8_readTicket_132 (by decide) ?_
        refine x_icmp_eq (pc := 133) (tgt := 284) C dX8_readTicket_133 (by decide) (fun q => ?_) (fun q => ?_)
        · rw [if_pos q] at h
          exact x_sub (tX8_readTicket_284 C hr h) (xLe_s (xLe_s (xLe_s (xLe_n (xLe_s (xLe_n (xLe_s (xLe_n (xLe_n xLe_0)))))))))
        · rw [if_neg q] at h
          exact x_sub (tX8_readTicket_136 C hr ih h) (xLe_s (xLe_s (xLe_s (xLe_n (xLe_s (xLe_s (xLe_s (xLe_n (xLe_n xLe_0)))))))))
    · rw [if_neg q] at h
      exact x_sub (tX8_readTicket_284 C hr h) (xLe_s (xLe_s (xLe_s (xLe_n (xLe_s (xLe_n (xLe_s (xLe_n (xLe_n xLe_0)))))))))
def DX8_readTicket_88 (l0 : Nat) (l1 : Int32) (l2 : Int32) (s0 : Int32) (σ : Sg) : Option (Unit × Sg) :=
  chk (ckO σ 6 l0) <|
  bnd (DX8_goOn l0 σ) fun _ σ1 =>
  chk (ckO σ1 6 l0) <|
  chk (ckV (gR σ1 l0 34)) <|
  chk (ckO σ1 6 l0) <|
  chk (ckO σ1 6 l0) <|
  bnd (DX8_told l0 (gR σ1 l0 34) (gI σ1 l0 3) (-1 : Int32) σ1) fun v2 σ3 =>
  chk (ckO σ3 6 l0) <|
  bnd (DX8_laysMiles l0 σ3) fun _ σ4 =>
  DX8_readTicket_116 FU l0 l1 l2 s0 v2 (0 : Int32) σ4
theorem tX8_readTicket_88 {r : Unit} {σ' : Sg} (C : Cx E p s m args meth c RX8 cX8_readTicket 9) (hr : meth.sig.returnType = none) {l0 : Nat} {l1 : Int32} {l2 : Int32} {s0 : Int32} {σ : Sg} (h : DX8_readTicket_88 l0 l1 l2 s0 σ = some (r, σ')) : Y E p l e (rmA 10 0 0) s m args below meth c none σ' 0 0 9 0 0 σ 88 [some (.ref (ad E l0)), some (.int l1), some (.int l2), none, none, none, none, none, none] [.int s0] := by
  unfold DX8_readTicket_88 at h
  refine x_istore (M := [some _, some _, some _, none, some _, none, none, none, none]) (pc := 88) C dX8_readTicket_88 (by decide) rfl ?_
  refine x_aload_n (pc := 90) C dX8_readTicket_90 rfl rfl ?_
  obtain ⟨k, h⟩ := chk_s h
  have k2 := k
  obtain ⟨u0, σ1, k, h⟩ := bnd_s h
  refine x_callV0 (pc := 91) C (mX8_goOn E l k) cl6 k2 cX8_175 nX8_goOn sX8_goOn rfl rfl (Nat.le_of_ble_eq_true rfl) ⟨Nat.le_of_ble_eq_true rfl, Nat.le_of_ble_eq_true rfl, Nat.le_of_ble_eq_true rfl, Nat.le_of_ble_eq_true rfl⟩ dX8_readTicket_91 ?_
  refine x_aload_n (pc := 94) C dX8_readTicket_94 rfl rfl ?_
  refine x_aload_n (pc := 95) C dX8_readTicket_95 rfl rfl ?_
  obtain ⟨k, h⟩ := chk_s h
  have k2 := k
  obtain ⟨k, h⟩ := chk_s h
  refine x_getR (pc := 96) C fX8_47 rfl k2 k dX8_readTicket_96 ?_
  refine x_aload_n (pc := 99) C dX8_readTicket_99 rfl rfl ?_
  obtain ⟨k, h⟩ := chk_s h
  refine x_getI (pc := 100) C fX8_182 rfl k dX8_readTicket_100 ?_
  refine x_iconst (v := -1) (pc := 103) C dX8_readTicket_103 (by decide) ?_
  obtain ⟨k, h⟩ := chk_s h
  have k2 := k
  obtain ⟨v2, σ3, k, h⟩ := bnd_s h
  refine x_callV1 (pc := 104) C (mX8_told E l k) cl6 k2 cX8_206 nX8_told sX8_told rfl rfl (Nat.le_of_ble_eq_true rfl) ⟨Nat.le_of_ble_eq_true rfl, Nat.le_of_ble_eq_true rfl, Nat.le_of_ble_eq_true rfl, Nat.le_of_ble_eq_true rfl⟩ dX8_readTicket_104 ?_
  refine x_istore (M := [some _, some _, some _, none, some _, some _, none, none, none]) (pc := 107) C dX8_readTicket_107 (by decide) rfl ?_
  refine x_iconst (v := 0) (pc := 109) C dX8_readTicket_109 (by decide) ?_
  refine x_istore (M := [some _, some _, some _, none, some _, some _, some _, none, none]) (pc := 110) C dX8_readTicket_110 (by decide) rfl ?_
  refine x_aload_n (pc := 112) C dX8_readTicket_112 rfl rfl ?_
  obtain ⟨k, h⟩ := chk_s h
  have k2 := k
  obtain ⟨u0, σ4, k, h⟩ := bnd_s h
  refine x_callV0 (pc := 113) C (mX8_laysMiles E l k) cl6 k2 cX8_109 nX8_laysMiles sX8_laysMiles rfl rfl (Nat.le_of_ble_eq_true rfl) ⟨Nat.le_of_ble_eq_true rfl, Nat.le_of_ble_eq_true rfl, Nat.le_of_ble_eq_true rfl, Nat.le_of_ble_eq_true rfl⟩ dX8_readTicket_113 ?_
  exact x_sub (tX8_readTicket_116 C hr FU _ _ _ _ _ _ _ h) (xLe_s (xLe_s (xLe_s (xLe_n (xLe_s (xLe_s (xLe_s (xLe_n (xLe_n xLe_0)))))))))
def DX8_readTicket_75 (l0 : Nat) (l1 : Int32) (l2 : Int32) (σ : Sg) : Option (Unit × Sg) :=
  chk (ckO σ 6 l0) <|
  bnd (DX8_isKey l0 (5 : Int32) σ) fun v1 σ2 =>
  if v1 = 0 then
    DX8_readTicket_88 l0 l1 l2 (0 : Int32) σ2
  else
    DX8_readTicket_88 l0 l1 l2 (1 : Int32) σ2
theorem tX8_readTicket_75 {r : Unit} {σ' : Sg} (C : Cx E p s m args meth c RX8 cX8_readTicket 9) (hr : meth.sig.returnType = none) {l0 : Nat} {l1 : Int32} {l2 : Int32} {σ : Sg} (h : DX8_readTicket_75 l0 l1 l2 σ = some (r, σ')) : Y E p l e (rmA 10 0 0) s m args below meth c none σ' 0 0 9 0 0 σ 75 [some (.ref (ad E l0)), some (.int l1), some (.int l2), none, none, none, none, none, none] [] := by
  unfold DX8_readTicket_75 at h
  refine x_aload_n (pc := 75) C dX8_readTicket_75 rfl rfl ?_
  refine x_iconst (v := 5) (pc := 76) C dX8_readTicket_76 (by decide) ?_
  obtain ⟨k, h⟩ := chk_s h
  have k2 := k
  obtain ⟨v1, σ2, k, h⟩ := bnd_s h
  refine x_callV1 (pc := 77) C (mX8_isKey E l k) cl6 k2 cX8_226 nX8_isKey sX8_isKey rfl rfl (Nat.le_of_ble_eq_true rfl) ⟨Nat.le_of_ble_eq_true rfl, Nat.le_of_ble_eq_true rfl, Nat.le_of_ble_eq_true rfl, Nat.le_of_ble_eq_true rfl⟩ dX8_readTicket_77 ?_
  refine x_if_eq (pc := 80) (tgt := 87) C dX8_readTicket_80 (by decide) (fun q => ?_) (fun q => ?_)
  · rw [if_pos q] at h
    refine x_iconst (v := 0) (pc := 87) C dX8_readTicket_87 (by decide) ?_
    exact x_sub (tX8_readTicket_88 C hr h) (xLe_s (xLe_s (xLe_s (xLe_n (xLe_n (xLe_n (xLe_n (xLe_n (xLe_n xLe_0)))))))))
  · rw [if_neg q] at h
    refine x_iconst (v := 1) (pc := 83) C dX8_readTicket_83 (by decide) ?_
    refine x_goto (tgt := 88) (pc := 84) C dX8_readTicket_84 (by decide) ?_
    exact x_sub (tX8_readTicket_88 C hr h) (xLe_s (xLe_s (xLe_s (xLe_n (xLe_n (xLe_n (xLe_n (xLe_n (xLe_n xLe_0)))))))))
def DX8_readTicket_58 (l0 : Nat) (l1 : Int32) (l2 : Int32) (s0 : Int32) (σ : Sg) : Option (Unit × Sg) :=
  chk (ckO σ 6 l0) <|
  if (gI σ l0 29) = 0 then
    if s0 = 0 then
      chk (ckO σ 6 l0) <|
      bnd (DX8_wrong l0 (1 : Int32) σ) fun _ σ1 =>
      DX8_readTicket_75 l0 l1 l2 σ1
    else
      DX8_readTicket_75 l0 l1 l2 σ
  else
    DX8_readTicket_75 l0 l1 l2 σ
theorem tX8_readTicket_58 {r : Unit} {σ' : Sg} (C : Cx E p s m args meth c RX8 cX8_readTicket 9) (hr : meth.sig.returnType = none) {l0 : Nat} {l1 : Int32} {l2 : Int32} {s0 : Int32} {σ : Sg} (h : DX8_readTicket_58 l0 l1 l2 s0 σ = some (r, σ')) : Y E p l e (rmA 10 0 0) s m args below meth c none σ' 0 0 9 0 0 σ 58 [some (.ref (ad E l0)), some (.int l1), some (.int l2), none, none, none, none, none, none] [.int s0] := by
  unfold DX8_readTicket_58 at h
  refine x_istore_n (M := [some _, some _, some _, some _, none, none, none, none, none]) (pc := 58) C dX8_readTicket_58 rfl (by decide) rfl ?_
  refine x_aload_n (pc := 59) C dX8_readTicket_59 rfl rfl ?_
  obtain ⟨k, h⟩ := chk_s h
  refine x_getI (pc := 60) C fX8_162 rfl k dX8_readTicket_60 ?_
  refine x_if_ne (pc := 63) (tgt := 75) C dX8_readTicket_63 (by decide) (fun q => ?_) (fun q => ?_)
  · rw [if_pos q] at h
    refine x_iload_n (pc := 66) C dX8_readTicket_66 rfl rfl ?_
    refine x_if_ne (pc := 67) (tgt := 75) C dX8_readTicket_67 (by decide) (fun q => ?_) (fun q => ?_)
    · rw [if_pos q] at h
      refine x_aload_n (pc := 70) C dX8_readTicket_70 rfl rfl ?_
      refine x_iconst (v := 1) (pc := 71) C dX8_readTicket_71 (by decide) ?_
      obtain ⟨k, h⟩ := chk_s h
      have k2 := k
      obtain ⟨u0, σ1, k, h⟩ := bnd_s h
      refine x_callV0 (pc := 72) C (mX8_wrong E l k) cl6 k2 cX8_171 nX8_wrong sX8_wrong rfl rfl (Nat.le_of_ble_eq_true rfl) ⟨Nat.le_of_ble_eq_true rfl, Nat.le_of_ble_eq_true rfl, Nat.le_of_ble_eq_true rfl, Nat.le_of_ble_eq_true rfl⟩ dX8_readTicket_72 ?_
      exact x_sub (tX8_readTicket_75 C hr h) (xLe_s (xLe_s (xLe_s (xLe_n (xLe_n (xLe_n (xLe_n (xLe_n (xLe_n xLe_0)))))))))
    · rw [if_neg q] at h
      exact x_sub (tX8_readTicket_75 C hr h) (xLe_s (xLe_s (xLe_s (xLe_n (xLe_n (xLe_n (xLe_n (xLe_n (xLe_n xLe_0)))))))))
  · rw [if_neg q] at h
    exact x_sub (tX8_readTicket_75 C hr h) (xLe_s (xLe_s (xLe_s (xLe_n (xLe_n (xLe_n (xLe_n (xLe_n (xLe_n xLe_0)))))))))
def DX8_readTicket_53 (l0 : Nat) (l1 : Int32) (l2 : Int32) (σ : Sg) : Option (Unit × Sg) :=
  DX8_readTicket_58 l0 l1 l2 (1 : Int32) σ
theorem tX8_readTicket_53 {r : Unit} {σ' : Sg} (C : Cx E p s m args meth c RX8 cX8_readTicket 9) (hr : meth.sig.returnType = none) {l0 : Nat} {l1 : Int32} {l2 : Int32} {σ : Sg} (h : DX8_readTicket_53 l0 l1 l2 σ = some (r, σ')) : Y E p l e (rmA 10 0 0) s m args below meth c none σ' 0 0 9 0 0 σ 53 [some (.ref (ad E l0)), some (.int l1), some (.int l2), none, none, none, none, none, none] [] := by
  unfold DX8_readTicket_53 at h
  refine x_iconst (v := 1) (pc := 53) C dX8_readTicket_53 (by decide) ?_
  refine x_goto (tgt := 58) (pc := 54) C dX8_readTicket_54 (by decide) ?_
  exact x_sub (tX8_readTicket_58 C hr h) (xLe_s (xLe_s (xLe_s (xLe_n (xLe_n (xLe_n (xLe_n (xLe_n (xLe_n xLe_0)))))))))
def DX8_readTicket (l0 : Nat) (σ : Sg) : Option (Unit × Sg) :=
  chk (ckO σ 6 l0) <|
  chk (ckO σ 6 l0) <|
  bnd (DX8_isFull l0 (gI σ l0 9) (8 : Int32) σ) fun v1 σ2 =>
  if v1 = 0 then
    chk (ckO σ2 6 l0) <|
    chk (ckO σ2 6 l0) <|
    chk (ckV (gR σ2 l0 36)) <|
    chk (ckO σ2 6 l0) <|
    bnd (DX8_newName l0 (gR σ2 l0 36) (gI σ2 l0 9) σ2) fun _ σ3 =>
    chk (ckO σ3 6 l0) <|
    bnd (DX8_number l0 (1 : Int32) (9999999 : Int32) σ3) fun v4 σ5 =>
    chk (ckO σ5 6 l0) <|
    bnd (DX8_isKey l0 (14 : Int32) σ5) fun v6 σ7 =>
    if v6 = 0 then
      chk (ckO σ7 6 l0) <|
      bnd (DX8_isKey l0 (5 : Int32) σ7) fun v8 σ9 =>
      if v8 = 0 then
        DX8_readTicket_58 l0 (gI σ2 l0 9) v4 (0 : Int32) σ9
      else
        DX8_readTicket_53 l0 (gI σ2 l0 9) v4 σ9
    else
      DX8_readTicket_53 l0 (gI σ2 l0 9) v4 σ7
  else
    some ((), σ2)
theorem mX8_readTicket (E : Ev) (l : Launch) {l0 : Nat} {σ : Sg} {r : Unit} {σ' : Sg} (h : DX8_readTicket l0 σ = some (r, σ')) : Mt E l yX8_readTicket cX8_readTicket 9 none 10 0 0 [.ref (ad E l0)] σ none σ' := by
  refine Mt.ofX (by decide) (Nat.le_of_ble_eq_true rfl) (L0 := [some (.ref (ad E l0)), none, none, none, none, none, none, none, none]) (xEntN_ok [.ref (ad E l0)] 9) (fun p e s m args below meth c C hr hn => ?_)
  unfold DX8_readTicket at h
  refine x_aload_n (pc := 0) C dX8_readTicket_0 rfl rfl ?_
  refine x_aload_n (pc := 1) C dX8_readTicket_1 rfl rfl ?_
  obtain ⟨k, h⟩ := chk_s h
  refine x_getI (pc := 2) C fX8_192 rfl k dX8_readTicket_2 ?_
  refine x_bipush (v := 8) (pc := 5) C dX8_readTicket_5 (by decide) ?_
  obtain ⟨k, h⟩ := chk_s h
  have k2 := k
  obtain ⟨v1, σ2, k, h⟩ := bnd_s h
  refine x_callV1 (pc := 7) C (mX8_isFull E l k) cl6 k2 cX8_202 nX8_isFull sX8_isFull rfl rfl (Nat.le_of_ble_eq_true rfl) ⟨Nat.le_of_ble_eq_true rfl, Nat.le_of_ble_eq_true rfl, Nat.le_of_ble_eq_true rfl, Nat.le_of_ble_eq_true rfl⟩ dX8_readTicket_7 ?_
  refine x_if_eq (pc := 10) (tgt := 14) C dX8_readTicket_10 (by decide) (fun q => ?_) (fun q => ?_)
  · rw [if_pos q] at h
    refine x_aload_n (pc := 14) C dX8_readTicket_14 rfl rfl ?_
    obtain ⟨k, h⟩ := chk_s h
    refine x_getI (pc := 15) C fX8_192 rfl k dX8_readTicket_15 ?_
    refine x_istore_n (M := [some _, some _, none, none, none, none, none, none, none]) (pc := 18) C dX8_readTicket_18 rfl (by decide) rfl ?_
    refine x_aload_n (pc := 19) C dX8_readTicket_19 rfl rfl ?_
    refine x_aload_n (pc := 20) C dX8_readTicket_20 rfl rfl ?_
    obtain ⟨k, h⟩ := chk_s h
    have k2 := k
    obtain ⟨k, h⟩ := chk_s h
    refine x_getR (pc := 21) C fX8_53 rfl k2 k dX8_readTicket_21 ?_
    refine x_iload_n (pc := 24) C dX8_readTicket_24 rfl rfl ?_
    obtain ⟨k, h⟩ := chk_s h
    have k2 := k
    obtain ⟨u0, σ3, k, h⟩ := bnd_s h
    refine x_callV0 (pc := 25) C (mX8_newName E l k) cl6 k2 cX8_241 nX8_newName sX8_newName rfl rfl (Nat.le_of_ble_eq_true rfl) ⟨Nat.le_of_ble_eq_true rfl, Nat.le_of_ble_eq_true rfl, Nat.le_of_ble_eq_true rfl, Nat.le_of_ble_eq_true rfl⟩ dX8_readTicket_25 ?_
    refine x_aload_n (pc := 28) C dX8_readTicket_28 rfl rfl ?_
    refine x_iconst (v := 1) (pc := 29) C dX8_readTicket_29 (by decide) ?_
    refine x_ldc (pc := 30) C kX8_150 dX8_readTicket_30 ?_
    obtain ⟨k, h⟩ := chk_s h
    have k2 := k
    obtain ⟨v4, σ5, k, h⟩ := bnd_s h
    refine x_callV1 (pc := 32) C (mX8_number E l k) cl6 k2 cX8_213 nX8_number sX8_number rfl rfl (Nat.le_of_ble_eq_true rfl) ⟨Nat.le_of_ble_eq_true rfl, Nat.le_of_ble_eq_true rfl, Nat.le_of_ble_eq_true rfl, Nat.le_of_ble_eq_true rfl⟩ dX8_readTicket_32 ?_
    refine x_istore_n (M := [some _, some _, some _, none, none, none, none, none, none]) (pc := 35) C dX8_readTicket_35 rfl (by decide) rfl ?_
    refine x_aload_n (pc := 36) C dX8_readTicket_36 rfl rfl ?_
    refine x_bipush (v := 14) (pc := 37) C dX8_readTicket_37 (by decide) ?_
    obtain ⟨k, h⟩ := chk_s h
    have k2 := k
    obtain ⟨v6, σ7, k, h⟩ := bnd_s h
    refine x_callV1 (pc := 39) C (mX8_isKey E l k) cl6 k2 cX8_226 nX8_isKey sX8_isKey rfl rfl (Nat.le_of_ble_eq_true rfl) ⟨Nat.le_of_ble_eq_true rfl, Nat.le_of_ble_eq_true rfl, Nat.le_of_ble_eq_true rfl, Nat.le_of_ble_eq_true rfl⟩ dX8_readTicket_39 ?_
    refine x_if_ne (pc := 42) (tgt := 53) C dX8_readTicket_42 (by decide) (fun q => ?_) (fun q => ?_)
    · rw [if_pos q] at h
      refine x_aload_n (pc := 45) C dX8_readTicket_45 rfl rfl ?_
      refine x_iconst (v := 5) (pc := 46) C dX8_readTicket_46 (by decide) ?_
      obtain ⟨k, h⟩ := chk_s h
      have k2 := k
      obtain ⟨v8, σ9, k, h⟩ := bnd_s h
      refine x_callV1 (pc := 47) C (mX8_isKey E l k) cl6 k2 cX8_226 nX8_isKey sX8_isKey rfl rfl (Nat.le_of_ble_eq_true rfl) ⟨Nat.le_of_ble_eq_true rfl, Nat.le_of_ble_eq_true rfl, Nat.le_of_ble_eq_true rfl, Nat.le_of_ble_eq_true rfl⟩ dX8_readTicket_47 ?_
      refine x_if_eq (pc := 50) (tgt := 57) C dX8_readTicket_50 (by decide) (fun q => ?_) (fun q => ?_)
      · rw [if_pos q] at h
        refine x_iconst (v := 0) (pc := 57) C dX8_readTicket_57 (by decide) ?_
        exact x_sub (tX8_readTicket_58 C hr h) (xLe_s (xLe_s (xLe_s (xLe_n (xLe_n (xLe_n (xLe_n (xLe_n (xLe_n xLe_0)))))))))
      · rw [if_neg q] at h
        exact x_sub (tX8_readTicket_53 C hr h) (xLe_s (xLe_s (xLe_s (xLe_n (xLe_n (xLe_n (xLe_n (xLe_n (xLe_n xLe_0)))))))))
    · rw [if_neg q] at h
      exact x_sub (tX8_readTicket_53 C hr h) (xLe_s (xLe_s (xLe_s (xLe_n (xLe_n (xLe_n (xLe_n (xLe_n (xLe_n xLe_0)))))))))
  · rw [if_neg q] at h
    cases h
    exact x_vret C hr dX8_readTicket_13
end

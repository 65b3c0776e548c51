section
variable {E : Ev} {p : Program} {l : Launch} {e : Env} {s : State} {m : MethodId} {args : Array Value} {below : List Frame} {meth : Method} {c : Code}
def DX2_init (l0 : Nat) (σ : Sg) : Option (Unit × Sg) :=
  chk (ckW σ 2 8 0) <|
  bnd (some (gN σ, mk1 σ)) fun a2 σ1 =>
  chk (ckO σ1 1 l0) <|
  chk (ckV a2) <|
  wlet (pR σ1 l0 0 a2) fun σ3 =>
  chk (ckW σ3 2 8 0) <|
  bnd (some (gN σ3, mk1 σ3)) fun a5 σ4 =>
  chk (ckO σ4 1 l0) <|
  chk (ckV a5) <|
  wlet (pR σ4 l0 1 a5) fun σ6 =>
  chk (ckW σ6 3 8 0) <|
  bnd (some (gN σ6, mk1 σ6)) fun a8 σ7 =>
  chk (ckO σ7 1 l0) <|
  chk (ckV a8) <|
  wlet (pR σ7 l0 2 a8) fun σ9 =>
  chk (ckW σ9 5 8 8) <|
  bnd (some (gN σ9, mk1 σ9)) fun a11 σ10 =>
  chk (ckO σ10 1 l0) <|
  chk (ckV a11) <|
  wlet (pR σ10 l0 3 a11) fun σ12 =>
  chk (ckW σ12 5 8 8) <|
  bnd (some (gN σ12, mk1 σ12)) fun a14 σ13 =>
  chk (ckO σ13 1 l0) <|
  chk (ckV a14) <|
  wlet (pR σ13 l0 4 a14) fun σ15 =>
  chk (ckW σ15 5 6 6) <|
  bnd (some (gN σ15, mk1 σ15)) fun a17 σ16 =>
  chk (ckO σ16 1 l0) <|
  chk (ckV a17) <|
  wlet (pR σ16 l0 5 a17) fun σ18 =>
  chk (ckW σ18 2 6 0) <|
  bnd (some (gN σ18, mk1 σ18)) fun a20 σ19 =>
  chk (ckO σ19 1 l0) <|
  chk (ckV a20) <|
  wlet (pR σ19 l0 6 a20) fun σ21 =>
  chk (ckW σ21 5 14 4) <|
  bnd (some (gN σ21, mk1 σ21)) fun a23 σ22 =>
  chk (ckO σ22 1 l0) <|
  chk (ckV a23) <|
  wlet (pR σ22 l0 7 a23) fun σ24 =>
  chk (ckW σ24 5 14 36) <|
  bnd (some (gN σ24, mk1 σ24)) fun a26 σ25 =>
  chk (ckO σ25 1 l0) <|
  chk (ckV a26) <|
  wlet (pR σ25 l0 8 a26) fun σ27 =>
  chk (ckO σ27 1 l0) <|
  wlet (pI σ27 l0 9 (0 : Int32)) fun σ28 =>
  chk (ckO σ28 1 l0) <|
  wlet (pI σ28 l0 10 (0 : Int32)) fun σ29 =>
  some ((), σ29)
theorem mX2_init (E : Ev) (l : Launch) {l0 : Nat} {σ : Sg} {r : Unit} {σ' : Sg} (h : DX2_init l0 σ = some (r, σ')) : Mt E l yX2_init cX2_init 1 none 1 59 804 [.ref (ad E l0)] σ none σ' := by
  refine Mt.ofX (by decide) (Nat.le_of_ble_eq_true rfl) (L0 := [some (.ref (ad E l0))]) (xEntN_ok [.ref (ad E l0)] 1) (fun p e s m args below meth c C hr hn => ?_)
  unfold DX2_init at h
  refine x_aload_n (pc := 0) C dX2_init_0 rfl rfl ?_
  refine x_objInit (pc := 1) C oX2_3 oi1 oi2 ⟨Nat.le_of_ble_eq_true rfl, Nat.le_of_ble_eq_true rfl⟩ dX2_init_1 ?_
  refine x_aload_n (pc := 4) C dX2_init_4 rfl rfl ?_
  refine x_bipush (v := 8) (pc := 5) C dX2_init_5 (by decide) ?_
  obtain ⟨k, h⟩ := chk_s h
  have k2 := k
  obtain ⟨a2, σ1, e1, h⟩ := bnd_s h
  refine x_newI (N := 8) (pc := 7) C aaI (by decide) (by decide) k2 (by decide) ⟨Nat.le_of_ble_eq_true rfl, Nat.le_of_ble_eq_true rfl⟩ dX2_init_7 (x_mkE e1 ?_)
  obtain ⟨k, h⟩ := chk_s h
  have k2 := k
  obtain ⟨k, h⟩ := chk_s h
  obtain ⟨σ3, e1, h⟩ := wlet_s h
  refine x_putQ (pc := 9) C qX2_9 hn (Or.inr ⟨_, rfl⟩) k2 k dX2_init_9 (x_eq e1 ?_)
  refine x_aload_n (pc := 12) C dX2_init_12 rfl rfl ?_
  refine x_bipush (v := 8) (pc := 13) C dX2_init_13 (by decide) ?_
  obtain ⟨k, h⟩ := chk_s h
  have k2 := k
  obtain ⟨a5, σ4, e1, h⟩ := bnd_s h
  refine x_newI (N := 8) (pc := 15) C aaI (by decide) (by decide) k2 (by decide) ⟨Nat.le_of_ble_eq_true rfl, Nat.le_of_ble_eq_true rfl⟩ dX2_init_15 (x_mkE e1 ?_)
  obtain ⟨k, h⟩ := chk_s h
  have k2 := k
  obtain ⟨k, h⟩ := chk_s h
  obtain ⟨σ6, e1, h⟩ := wlet_s h
  refine x_putQ (pc := 17) C qX2_15 hn (Or.inr ⟨_, rfl⟩) k2 k dX2_init_17 (x_eq e1 ?_)
  refine x_aload_n (pc := 20) C dX2_init_20 rfl rfl ?_
  refine x_bipush (v := 8) (pc := 21) C dX2_init_21 (by decide) ?_
  obtain ⟨k, h⟩ := chk_s h
  have k2 := k
  obtain ⟨a8, σ7, e1, h⟩ := bnd_s h
  refine x_newZ (N := 8) (pc := 23) C aaZ (by decide) (by decide) k2 (by decide) ⟨Nat.le_of_ble_eq_true rfl, Nat.le_of_ble_eq_true rfl⟩ dX2_init_23 (x_mkE e1 ?_)
  obtain ⟨k, h⟩ := chk_s h
  have k2 := k
  obtain ⟨k, h⟩ := chk_s h
  obtain ⟨σ9, e1, h⟩ := wlet_s h
  refine x_putQ (pc := 25) C qX2_18 hn (Or.inr ⟨_, rfl⟩) k2 k dX2_init_25 (x_eq e1 ?_)
  refine x_aload_n (pc := 28) C dX2_init_28 rfl rfl ?_
  refine x_bipush (v := 8) (pc := 29) C dX2_init_29 (by decide) ?_
  refine x_bipush (v := 8) (pc := 31) C dX2_init_31 (by decide) ?_
  obtain ⟨k, h⟩ := chk_s h
  have k2 := k
  obtain ⟨a11, σ10, e1, h⟩ := bnd_s h
  refine x_newG (N := 8) (K := 8) (pc := 33) C wX2_22 aaI (by decide) (by decide) (by decide) (by decide) k2 (by decide) ⟨Nat.le_of_ble_eq_true rfl, Nat.le_of_ble_eq_true rfl⟩ dX2_init_33 (x_mkE e1 ?_)
  obtain ⟨k, h⟩ := chk_s h
  have k2 := k
  obtain ⟨k, h⟩ := chk_s h
  obtain ⟨σ12, e1, h⟩ := wlet_s h
  refine x_putQ (pc := 37) C qX2_24 hn (Or.inr ⟨_, rfl⟩) k2 k dX2_init_37 (x_eq e1 ?_)
  refine x_aload_n (pc := 40) C dX2_init_40 rfl rfl ?_
  refine x_bipush (v := 8) (pc := 41) C dX2_init_41 (by decide) ?_
  refine x_bipush (v := 8) (pc := 43) C dX2_init_43 (by decide) ?_
  obtain ⟨k, h⟩ := chk_s h
  have k2 := k
  obtain ⟨a14, σ13, e1, h⟩ := bnd_s h
  refine x_newG (N := 8) (K := 8) (pc := 45) C wX2_22 aaI (by decide) (by decide) (by decide) (by decide) k2 (by decide) ⟨Nat.le_of_ble_eq_true rfl, Nat.le_of_ble_eq_true rfl⟩ dX2_init_45 (x_mkE e1 ?_)
  obtain ⟨k, h⟩ := chk_s h
  have k2 := k
  obtain ⟨k, h⟩ := chk_s h
  obtain ⟨σ15, e1, h⟩ := wlet_s h
  refine x_putQ (pc := 49) C qX2_27 hn (Or.inr ⟨_, rfl⟩) k2 k dX2_init_49 (x_eq e1 ?_)
  refine x_aload_n (pc := 52) C dX2_init_52 rfl rfl ?_
  refine x_bipush (v := 6) (pc := 53) C dX2_init_53 (by decide) ?_
  refine x_bipush (v := 6) (pc := 55) C dX2_init_55 (by decide) ?_
  obtain ⟨k, h⟩ := chk_s h
  have k2 := k
  obtain ⟨a17, σ16, e1, h⟩ := bnd_s h
  refine x_newG (N := 6) (K := 6) (pc := 57) C wX2_22 aaI (by decide) (by decide) (by decide) (by decide) k2 (by decide) ⟨Nat.le_of_ble_eq_true rfl, Nat.le_of_ble_eq_true rfl⟩ dX2_init_57 (x_mkE e1 ?_)
  obtain ⟨k, h⟩ := chk_s h
  have k2 := k
  obtain ⟨k, h⟩ := chk_s h
  obtain ⟨σ18, e1, h⟩ := wlet_s h
  refine x_putQ (pc := 61) C qX2_30 hn (Or.inr ⟨_, rfl⟩) k2 k dX2_init_61 (x_eq e1 ?_)
  refine x_aload_n (pc := 64) C dX2_init_64 rfl rfl ?_
  refine x_bipush (v := 6) (pc := 65) C dX2_init_65 (by decide) ?_
  obtain ⟨k, h⟩ := chk_s h
  have k2 := k
  obtain ⟨a20, σ19, e1, h⟩ := bnd_s h
  refine x_newI (N := 6) (pc := 67) C aaI (by decide) (by decide) k2 (by decide) ⟨Nat.le_of_ble_eq_true rfl, Nat.le_of_ble_eq_true rfl⟩ dX2_init_67 (x_mkE e1 ?_)
  obtain ⟨k, h⟩ := chk_s h
  have k2 := k
  obtain ⟨k, h⟩ := chk_s h
  obtain ⟨σ21, e1, h⟩ := wlet_s h
  refine x_putQ (pc := 69) C qX2_33 hn (Or.inr ⟨_, rfl⟩) k2 k dX2_init_69 (x_eq e1 ?_)
  refine x_aload_n (pc := 72) C dX2_init_72 rfl rfl ?_
  refine x_bipush (v := 14) (pc := 73) C dX2_init_73 (by decide) ?_
  refine x_iconst (v := 4) (pc := 75) C dX2_init_75 (by decide) ?_
  obtain ⟨k, h⟩ := chk_s h
  have k2 := k
  obtain ⟨a23, σ22, e1, h⟩ := bnd_s h
  refine x_newG (N := 14) (K := 4) (pc := 76) C wX2_22 aaI (by decide) (by decide) (by decide) (by decide) k2 (by decide) ⟨Nat.le_of_ble_eq_true rfl, Nat.le_of_ble_eq_true rfl⟩ dX2_init_76 (x_mkE e1 ?_)
  obtain ⟨k, h⟩ := chk_s h
  have k2 := k
  obtain ⟨k, h⟩ := chk_s h
  obtain ⟨σ24, e1, h⟩ := wlet_s h
  refine x_putQ (pc := 80) C qX2_36 hn (Or.inr ⟨_, rfl⟩) k2 k dX2_init_80 (x_eq e1 ?_)
  refine x_aload_n (pc := 83) C dX2_init_83 rfl rfl ?_
  refine x_bipush (v := 14) (pc := 84) C dX2_init_84 (by decide) ?_
  refine x_bipush (v := 36) (pc := 86) C dX2_init_86 (by decide) ?_
  obtain ⟨k, h⟩ := chk_s h
  have k2 := k
  obtain ⟨a26, σ25, e1, h⟩ := bnd_s h
  refine x_newG (N := 14) (K := 36) (pc := 88) C wX2_22 aaI (by decide) (by decide) (by decide) (by decide) k2 (by decide) ⟨Nat.le_of_ble_eq_true rfl, Nat.le_of_ble_eq_true rfl⟩ dX2_init_88 (x_mkE e1 ?_)
  obtain ⟨k, h⟩ := chk_s h
  have k2 := k
  obtain ⟨k, h⟩ := chk_s h
  obtain ⟨σ27, e1, h⟩ := wlet_s h
  refine x_putQ (pc := 92) C qX2_39 hn (Or.inr ⟨_, rfl⟩) k2 k dX2_init_92 (x_eq e1 ?_)
  refine x_aload_n (pc := 95) C dX2_init_95 rfl rfl ?_
  refine x_iconst (v := 0) (pc := 96) C dX2_init_96 (by decide) ?_
  obtain ⟨k, h⟩ := chk_s h
  obtain ⟨σ28, e1, h⟩ := wlet_s h
  refine x_putI (pc := 97) C pX2_42 rfl k dX2_init_97 (x_eq e1 ?_)
  refine x_aload_n (pc := 100) C dX2_init_100 rfl rfl ?_
  refine x_iconst (v := 0) (pc := 101) C dX2_init_101 (by decide) ?_
  obtain ⟨k, h⟩ := chk_s h
  obtain ⟨σ29, e1, h⟩ := wlet_s h
  refine x_putI (pc := 102) C pX2_46 rfl k dX2_init_102 (x_eq e1 ?_)
  cases h
  exact x_vret C hr dX2_init_105
def DX2_open_67 (K7 : Nat → Nat → Int32 → Sg → Option (Unit × Sg)) (l0 : Nat) (l1 : Nat) (l2 : Int32) (σ : Sg) : Option (Unit × Sg) :=
  K7 l0 l1 (l2 + (1 : Int32)) σ
theorem tX2_open_67 {r : Unit} {σ' : Sg} (C : Cx E p s m args meth c RX2 cX2_open 4) (hr : meth.sig.returnType = none) {K7 : Nat → Nat → Int32 → Sg → Option (Unit × Sg)} (hK7 : ∀ (l0 : Nat) (l1 : Nat) (l2 : Int32) (σ : Sg), K7 l0 l1 l2 σ = some (r, σ') → Y E p l e (rmA 2 0 0) s m args below meth c none σ' 0 0 4 0 0 σ 7 [some (.ref (ad E l0)), some (.ref (ad E l1)), some (.int l2), none] []) {l0 : Nat} {l1 : Nat} {l2 : Int32} {σ : Sg} (h : DX2_open_67 K7 l0 l1 l2 σ = some (r, σ')) : Y E p l e (rmA 2 0 0) s m args below meth c none σ' 0 0 4 0 0 σ 67 [some (.ref (ad E l0)), some (.ref (ad E l1)), some (.int l2), none] [] := by
  unfold DX2_open_67 at h
  refine x_iinc (v := 1) (M := [some _, some _, some _, none]) (pc := 67) C dX2_open_67 rfl (by decide) (by decide) rfl ?_
  refine x_goto (tgt := 7) (pc := 70) C dX2_open_70 (by decide) ?_
  exact x_sub (hK7 _ _ _ _ h) (xLe_s (xLe_s (xLe_s (xLe_n xLe_0))))
def DX2_open_41 (K7 : Nat → Nat → Int32 → Sg → Option (Unit × Sg)) : Nat → Nat → Nat → Int32 → Int32 → Sg → Option (Unit × Sg)
  | 0, _, _, _, _, _ => none
  | n + 1, l0, l1, l2, l3, σ =>
    if (8 : Int32) ≤ l3 then
      DX2_open_67 K7 l0 l1 l2 σ
    else
      chk (ckO σ 1 l0) <|
      chk (ckV (gR σ l0 3)) <|
      chk (ckG σ (gR σ l0 3) l2) <|
      chk (ckO σ 0 l1) <|
      bnd (DX1_carrierTold l1 l2 l3 σ) fun v1 σ2 =>
      chk (ckR σ2 (gR σ l0 3) l2.toNatClampNeg l3) <|
      wlet (wG σ2 (gR σ l0 3) l2.toNatClampNeg l3.toNatClampNeg v1) fun σ3 =>
      DX2_open_41 K7 n l0 l1 l2 (l3 + (1 : Int32)) σ3
theorem tX2_open_41 {r : Unit} {σ' : Sg} (C : Cx E p s m args meth c RX2 cX2_open 4) (hr : meth.sig.returnType = none) {K7 : Nat → Nat → Int32 → Sg → Option (Unit × Sg)} (hK7 : ∀ (l0 : Nat) (l1 : Nat) (l2 : Int32) (σ : Sg), K7 l0 l1 l2 σ = some (r, σ') → Y E p l e (rmA 2 0 0) s m args below meth c none σ' 0 0 4 0 0 σ 7 [some (.ref (ad E l0)), some (.ref (ad E l1)), some (.int l2), none] []) : ∀ (n : Nat) (l0 : Nat) (l1 : Nat) (l2 : Int32) (l3 : Int32) (σ : Sg) (h : DX2_open_41 K7 n l0 l1 l2 l3 σ = some (r, σ')), Y E p l e (rmA 2 0 0) s m args below meth c none σ' 0 0 4 0 0 σ 41 [some (.ref (ad E l0)), some (.ref (ad E l1)), some (.int l2), some (.int l3)] [] := by
  intro n
  induction n with
  | zero => intro l0 l1 l2 l3 σ h; cases h
  | succ n ih =>
    intro l0 l1 l2 l3 σ h
    unfold DX2_open_41 at h
    refine x_iload_n (pc := 41) C dX2_open_41 rfl rfl ?_
    refine x_bipush (v := 8) (pc := 42) C dX2_open_42 (by decide) ?_
    refine x_icmp_ge (pc := 44) (tgt := 67) C dX2_open_44 (by decide) (fun q => ?_) (fun q => ?_)
    · rw [if_pos q] at h
      exact x_sub (tX2_open_67 C hr hK7 h) (xLe_s (xLe_s (xLe_s (xLe_n xLe_0))))
    · rw [if_neg q] at h
      refine x_aload_n (pc := 47) C dX2_open_47 rfl rfl ?_
      obtain ⟨k, h⟩ := chk_s h
      have k2 := k
      obtain ⟨k, h⟩ := chk_s h
      refine x_getR (pc := 48) C fX2_24 rfl k2 k dX2_open_48 ?_
      refine x_iload_n (pc := 51) C dX2_open_51 rfl rfl ?_
      obtain ⟨k, h⟩ := chk_s h
      refine x_gald (pc := 52) C k dX2_open_52 ?_
      refine x_iload_n (pc := 53) C dX2_open_53 rfl rfl ?_
      refine x_aload_n (pc := 54) C dX2_open_54 rfl rfl ?_
      refine x_iload_n (pc := 55) C dX2_open_55 rfl rfl ?_
      refine x_iload_n (pc := 56) C dX2_open_56 rfl rfl ?_
      obtain ⟨k, h⟩ := chk_s h
      have k2 := k
      obtain ⟨v1, σ2, k, h⟩ := bnd_s h
      refine x_callV1 (pc := 57) C (mX1_carrierTold E l k) cl0 k2 cX2_49 nX1_carrierTold sX1_carrierTold rfl rfl (Nat.le_of_ble_eq_true rfl) ⟨Nat.le_of_ble_eq_true rfl, Nat.le_of_ble_eq_true rfl, Nat.le_of_ble_eq_true rfl, Nat.le_of_ble_eq_true rfl⟩ dX2_open_57 ?_
      obtain ⟨k, h⟩ := chk_s h
      obtain ⟨σ3, e1, h⟩ := wlet_s h
      refine x_rast (pc := 60) C k dX2_open_60 (x_eq e1 ?_)
      refine x_iinc (v := 1) (M := [some _, some _, some _, some _]) (pc := 61) C dX2_open_61 rfl (by decide) (by decide) rfl ?_
      refine x_goto (tgt := 41) (pc := 64) C dX2_open_64 (by decide) ?_
      exact x_sub (ih _ _ _ _ _ h) (xLe_s (xLe_s (xLe_s (xLe_s xLe_0))))
def DX2_open_111 (K75 : Nat → Int32 → Sg → Option (Unit × Sg)) (l0 : Nat) (l2 : Int32) (σ : Sg) : Option (Unit × Sg) :=
  K75 l0 (l2 + (1 : Int32)) σ
theorem tX2_open_111 {r : Unit} {σ' : Sg} (C : Cx E p s m args meth c RX2 cX2_open 4) (hr : meth.sig.returnType = none) {K75 : Nat → Int32 → Sg → Option (Unit × Sg)} (hK75 : ∀ (l0 : Nat) (l2 : Int32) (σ : Sg), K75 l0 l2 σ = some (r, σ') → Y E p l e (rmA 2 0 0) s m args below meth c none σ' 0 0 4 0 0 σ 75 [some (.ref (ad E l0)), none, some (.int l2), none] []) {l0 : Nat} {l2 : Int32} {σ : Sg} (h : DX2_open_111 K75 l0 l2 σ = some (r, σ')) : Y E p l e (rmA 2 0 0) s m args below meth c none σ' 0 0 4 0 0 σ 111 [some (.ref (ad E l0)), none, some (.int l2), none] [] := by
  unfold DX2_open_111 at h
  refine x_iinc (v := 1) (M := [some _, none, some _, none]) (pc := 111) C dX2_open_111 rfl (by decide) (by decide) rfl ?_
  refine x_goto (tgt := 75) (pc := 114) C dX2_open_114 (by decide) ?_
  exact x_sub (hK75 _ _ _ h) (xLe_s (xLe_n (xLe_s (xLe_n xLe_0))))
def DX2_open_90 (K75 : Nat → Int32 → Sg → Option (Unit × Sg)) : Nat → Nat → Int32 → Int32 → Sg → Option (Unit × Sg)
  | 0, _, _, _, _ => none
  | n + 1, l0, l2, l3, σ =>
    if (6 : Int32) ≤ l3 then
      DX2_open_111 K75 l0 l2 σ
    else
      chk (ckO σ 1 l0) <|
      chk (ckV (gR σ l0 5)) <|
      chk (ckG σ (gR σ l0 5) l2) <|
      chk (ckR σ (gR σ l0 5) l2.toNatClampNeg l3) <|
      wlet (wG σ (gR σ l0 5) l2.toNatClampNeg l3.toNatClampNeg (0 : Int32)) fun σ1 =>
      DX2_open_90 K75 n l0 l2 (l3 + (1 : Int32)) σ1
theorem tX2_open_90 {r : Unit} {σ' : Sg} (C : Cx E p s m args meth c RX2 cX2_open 4) (hr : meth.sig.returnType = none) {K75 : Nat → Int32 → Sg → Option (Unit × Sg)} (hK75 : ∀ (l0 : Nat) (l2 : Int32) (σ : Sg), K75 l0 l2 σ = some (r, σ') → Y E p l e (rmA 2 0 0) s m args below meth c none σ' 0 0 4 0 0 σ 75 [some (.ref (ad E l0)), none, some (.int l2), none] []) : ∀ (n : Nat) (l0 : Nat) (l2 : Int32) (l3 : Int32) (σ : Sg) (h : DX2_open_90 K75 n l0 l2 l3 σ = some (r, σ')), Y E p l e (rmA 2 0 0) s m args below meth c none σ' 0 0 4 0 0 σ 90 [some (.ref (ad E l0)), none, some (.int l2), some (.int l3)] [] := by
  intro n
  induction n with
  | zero => intro l0 l2 l3 σ h; cases h
  | succ n ih =>
    intro l0 l2 l3 σ h
    unfold DX2_open_90 at h
    refine x_iload_n (pc := 90) C dX2_open_90 rfl rfl ?_
    refine x_bipush (v := 6) (pc := 91) C dX2_open_91 (by decide) ?_
    refine x_icmp_ge (pc := 93) (tgt := 111) C dX2_open_93 (by decide) (fun q => ?_) (fun q => ?_)
    · rw [if_pos q] at h
      exact x_sub (tX2_open_111 C hr hK75 h) (xLe_s (xLe_n (xLe_s (xLe_n xLe_0))))
    · rw [if_neg q] at h
      refine x_aload_n (pc := 96) C dX2_open_96 rfl rfl ?_
      obtain ⟨k, h⟩ := chk_s h
      have k2 := k
      obtain ⟨k, h⟩ := chk_s h
      refine x_getR (pc := 97) C fX2_30 rfl k2 k dX2_open_97 ?_
      refine x_iload_n (pc := 100) C dX2_open_100 rfl rfl ?_
      obtain ⟨k, h⟩ := chk_s h
      refine x_gald (pc := 101) C k dX2_open_101 ?_
      refine x_iload_n (pc := 102) C dX2_open_102 rfl rfl ?_
      refine x_iconst (v := 0) (pc := 103) C dX2_open_103 (by decide) ?_
      obtain ⟨k, h⟩ := chk_s h
      obtain ⟨σ1, e1, h⟩ := wlet_s h
      refine x_rast (pc := 104) C k dX2_open_104 (x_eq e1 ?_)
      refine x_iinc (v := 1) (M := [some _, none, some _, some _]) (pc := 105) C dX2_open_105 rfl (by decide) (by decide) rfl ?_
      refine x_goto (tgt := 90) (pc := 108) C dX2_open_108 (by decide) ?_
      exact x_sub (ih _ _ _ _ h) (xLe_s (xLe_n (xLe_s (xLe_s xLe_0))))
def DX2_open_117 (σ : Sg) : Option (Unit × Sg) :=
  some ((), σ)
theorem tX2_open_117 {r : Unit} {σ' : Sg} (C : Cx E p s m args meth c RX2 cX2_open 4) (hr : meth.sig.returnType = none) {σ : Sg} (h : DX2_open_117  σ = some (r, σ')) : Y E p l e (rmA 2 0 0) s m args below meth c none σ' 0 0 4 0 0 σ 117 [none, none, none, none] [] := by
  unfold DX2_open_117 at h
  cases h
  exact x_vret C hr dX2_open_117
def DX2_open_75 : Nat → Nat → Int32 → Sg → Option (Unit × Sg)
  | 0, _, _, _ => none
  | n + 1, l0, l2, σ =>
    if (6 : Int32) ≤ l2 then
      DX2_open_117 σ
    else
      chk (ckO σ 1 l0) <|
      chk (ckV (gR σ l0 6)) <|
      chk (ckI σ (gR σ l0 6) l2) <|
      wlet (wI σ (gR σ l0 6) l2.toNatClampNeg (0 : Int32)) fun σ1 =>
      DX2_open_90 (DX2_open_75 n) FU l0 l2 (0 : Int32) σ1
theorem tX2_open_75 {r : Unit} {σ' : Sg} (C : Cx E p s m args meth c RX2 cX2_open 4) (hr : meth.sig.returnType = none) : ∀ (n : Nat) (l0 : Nat) (l2 : Int32) (σ : Sg) (h : DX2_open_75 n l0 l2 σ = some (r, σ')), Y E p l e (rmA 2 0 0) s m args below meth c none σ' 0 0 4 0 0 σ 75 [some (.ref (ad E l0)), none, some (.int l2), none] [] := by
  intro n
  induction n with
  | zero => intro l0 l2 σ h; cases h
  | succ n ih =>
    intro l0 l2 σ h
    unfold DX2_open_75 at h
    refine x_iload_n (pc := 75) C dX2_open_75 rfl rfl ?_
    refine x_bipush (v := 6) (pc := 76) C dX2_open_76 (by decide) ?_
    refine x_icmp_ge (pc := 78) (tgt := 117) C dX2_open_78 (by decide) (fun q => ?_) (fun q => ?_)
    · rw [if_pos q] at h
      exact x_sub (tX2_open_117 C hr h) (xLe_n (xLe_n (xLe_n (xLe_n xLe_0))))
    · rw [if_neg q] at h
      refine x_aload_n (pc := 81) C dX2_open_81 rfl rfl ?_
      obtain ⟨k, h⟩ := chk_s h
      have k2 := k
      obtain ⟨k, h⟩ := chk_s h
      refine x_getR (pc := 82) C fX2_33 rfl k2 k dX2_open_82 ?_
      refine x_iload_n (pc := 85) C dX2_open_85 rfl rfl ?_
      refine x_iconst (v := 0) (pc := 86) C dX2_open_86 (by decide) ?_
      obtain ⟨k, h⟩ := chk_s h
      obtain ⟨σ1, e1, h⟩ := wlet_s h
      refine x_iast (pc := 87) C k dX2_open_87 (x_eq e1 ?_)
      refine x_iconst (v := 0) (pc := 88) C dX2_open_88 (by decide) ?_
      refine x_istore_n (M := [some _, none, some _, some _]) (pc := 89) C dX2_open_89 rfl (by decide) rfl ?_
      exact x_sub (tX2_open_90 C hr ih FU _ _ _ _ h) (xLe_s (xLe_n (xLe_s (xLe_s xLe_0))))
def DX2_open_73 (l0 : Nat) (σ : Sg) : Option (Unit × Sg) :=
  DX2_open_75 FU l0 (0 : Int32) σ
theorem tX2_open_73 {r : Unit} {σ' : Sg} (C : Cx E p s m args meth c RX2 cX2_open 4) (hr : meth.sig.returnType = none) {l0 : Nat} {σ : Sg} (h : DX2_open_73 l0 σ = some (r, σ')) : Y E p l e (rmA 2 0 0) s m args below meth c none σ' 0 0 4 0 0 σ 73 [some (.ref (ad E l0)), none, none, none] [] := by
  unfold DX2_open_73 at h
  refine x_iconst (v := 0) (pc := 73) C dX2_open_73 (by decide) ?_
  refine x_istore_n (M := [some _, none, some _, none]) (pc := 74) C dX2_open_74 rfl (by decide) rfl ?_
  exact x_sub (tX2_open_75 C hr FU _ _ _ h) (xLe_s (xLe_n (xLe_s (xLe_n xLe_0))))
def DX2_open_7 : Nat → Nat → Nat → Int32 → Sg → Option (Unit × Sg)
  | 0, _, _, _, _ => none
  | n + 1, l0, l1, l2, σ =>
    if (8 : Int32) ≤ l2 then
      DX2_open_73 l0 σ
    else
      chk (ckO σ 1 l0) <|
      chk (ckV (gR σ l0 0)) <|
      chk (ckO σ 0 l1) <|
      bnd (DX1_carrierTold l1 l2 (0 : Int32) σ) fun v1 σ2 =>
      chk (ckI σ2 (gR σ l0 0) l2) <|
      wlet (wI σ2 (gR σ l0 0) l2.toNatClampNeg v1) fun σ3 =>
      chk (ckO σ3 1 l0) <|
      chk (ckV (gR σ3 l0 1)) <|
      chk (ckI σ3 (gR σ3 l0 1) l2) <|
      wlet (wI σ3 (gR σ3 l0 1) l2.toNatClampNeg (0 : Int32)) fun σ4 =>
      chk (ckO σ4 1 l0) <|
      chk (ckV (gR σ4 l0 2)) <|
      chk (ckZ σ4 (gR σ4 l0 2) l2) <|
      chk (ck01 (0 : Int32)) <|
      wlet (wI σ4 (gR σ4 l0 2) l2.toNatClampNeg (0 : Int32)) fun σ5 =>
      DX2_open_41 (DX2_open_7 n) FU l0 l1 l2 (0 : Int32) σ5
theorem tX2_open_7 {r : Unit} {σ' : Sg} (C : Cx E p s m args meth c RX2 cX2_open 4) (hr : meth.sig.returnType = none) : ∀ (n : Nat) (l0 : Nat) (l1 : Nat) (l2 : Int32) (σ : Sg) (h : DX2_open_7 n l0 l1 l2 σ = some (r, σ')), Y E p l e (rmA 2 0 0) s m args below meth c none σ' 0 0 4 0 0 σ 7 [some (.ref (ad E l0)), some (.ref (ad E l1)), some (.int l2), none] [] := by
  intro n
  induction n with
  | zero => intro l0 l1 l2 σ h; cases h
  | succ n ih =>
    intro l0 l1 l2 σ h
    unfold DX2_open_7 at h
    refine x_iload_n (pc := 7) C dX2_open_7 rfl rfl ?_
    refine x_bipush (v := 8) (pc := 8) C dX2_open_8 (by decide) ?_
    refine x_icmp_ge (pc := 10) (tgt := 73) C dX2_open_10 (by decide) (fun q => ?_) (fun q => ?_)
    · rw [if_pos q] at h
      exact x_sub (tX2_open_73 C hr h) (xLe_s (xLe_n (xLe_n (xLe_n xLe_0))))
    · rw [if_neg q] at h
      refine x_aload_n (pc := 13) C dX2_open_13 rfl rfl ?_
      obtain ⟨k, h⟩ := chk_s h
      have k2 := k
      obtain ⟨k, h⟩ := chk_s h
      refine x_getR (pc := 14) C fX2_9 rfl k2 k dX2_open_14 ?_
      refine x_iload_n (pc := 17) C dX2_open_17 rfl rfl ?_
      refine x_aload_n (pc := 18) C dX2_open_18 rfl rfl ?_
      refine x_iload_n (pc := 19) C dX2_open_19 rfl rfl ?_
      refine x_iconst (v := 0) (pc := 20) C dX2_open_20 (by decide) ?_
      obtain ⟨k, h⟩ := chk_s h
      have k2 := k
      obtain ⟨v1, σ2, k, h⟩ := bnd_s h
      refine x_callV1 (pc := 21) C (mX1_carrierTold E l k) cl0 k2 cX2_49 nX1_carrierTold sX1_carrierTold rfl rfl (Nat.le_of_ble_eq_true rfl) ⟨Nat.le_of_ble_eq_true rfl, Nat.le_of_ble_eq_true rfl, Nat.le_of_ble_eq_true rfl, Nat.le_of_ble_eq_true rfl⟩ dX2_open_21 ?_
      obtain ⟨k, h⟩ := chk_s h
      obtain ⟨σ3, e1, h⟩ := wlet_s h
      refine x_iast (pc := 24) C k dX2_open_24 (x_eq e1 ?_)
      refine x_aload_n (pc := 25) C dX2_open_25 rfl rfl ?_
      obtain ⟨k, h⟩ := chk_s h
      have k2 := k
      obtain ⟨k, h⟩ := chk_s h
      refine x_getR (pc := 26) C fX2_15 rfl k2 k dX2_open_26 ?_
      refine x_iload_n (pc := 29) C dX2_open_29 rfl rfl ?_
      refine x_iconst (v := 0) (pc := 30) C dX2_open_30 (by decide) ?_
      obtain ⟨k, h⟩ := chk_s h
      obtain ⟨σ4, e1, h⟩ := wlet_s h
      refine x_iast (pc := 31) C k dX2_open_31 (x_eq e1 ?_)
      refine x_aload_n (pc := 32) C dX2_open_32 rfl rfl ?_
      obtain ⟨k, h⟩ := chk_s h
      have k2 := k
      obtain ⟨k, h⟩ := chk_s h
      refine x_getR (pc := 33) C fX2_18 rfl k2 k dX2_open_33 ?_
      refine x_iload_n (pc := 36) C dX2_open_36 rfl rfl ?_
      refine x_iconst (v := 0) (pc := 37) C dX2_open_37 (by decide) ?_
      obtain ⟨k, h⟩ := chk_s h
      have k2 := k
      obtain ⟨k, h⟩ := chk_s h
      obtain ⟨σ5, e1, h⟩ := wlet_s h
      refine x_zast (pc := 38) C k2 k dX2_open_38 (x_eq e1 ?_)
      refine x_iconst (v := 0) (pc := 39) C dX2_open_39 (by decide) ?_
      refine x_istore_n (M := [some _, some _, some _, some _]) (pc := 40) C dX2_open_40 rfl (by decide) rfl ?_
      exact x_sub (tX2_open_41 C hr ih FU _ _ _ _ _ h) (xLe_s (xLe_s (xLe_s (xLe_s xLe_0))))
def DX2_open (l0 : Nat) (l1 : Nat) (σ : Sg) : Option (Unit × Sg) :=
  chk (ckO σ 1 l0) <|
  wlet (pI σ l0 10 (0 : Int32)) fun σ1 =>
  DX2_open_7 FU l0 l1 (0 : Int32) σ1
theorem mX2_open (E : Ev) (l : Launch) {l0 : Nat} {l1 : Nat} {σ : Sg} {r : Unit} {σ' : Sg} (h : DX2_open l0 l1 σ = some (r, σ')) : Mt E l yX2_open cX2_open 4 none 2 0 0 [.ref (ad E l0), .ref (ad E l1)] σ none σ' := by
  refine Mt.ofX (by decide) (Nat.le_of_ble_eq_true rfl) (L0 := [some (.ref (ad E l0)), some (.ref (ad E l1)), none, none]) (xEntN_ok [.ref (ad E l0), .ref (ad E l1)] 4) (fun p e s m args below meth c C hr hn => ?_)
  unfold DX2_open at h
  refine x_aload_n (pc := 0) C dX2_open_0 rfl rfl ?_
  refine x_iconst (v := 0) (pc := 1) C dX2_open_1 (by decide) ?_
  obtain ⟨k, h⟩ := chk_s h
  obtain ⟨σ1, e1, h⟩ := wlet_s h
  refine x_putI (pc := 2) C pX2_46 rfl k dX2_open_2 (x_eq e1 ?_)
  refine x_iconst (v := 0) (pc := 5) C dX2_open_5 (by decide) ?_
  refine x_istore_n (M := [some _, some _, some _, none]) (pc := 6) C dX2_open_6 rfl (by decide) rfl ?_
  exact x_sub (tX2_open_7 C hr FU _ _ _ _ h) (xLe_s (xLe_s (xLe_s (xLe_n xLe_0))))
def DX2_addStep_49 (l0 : Nat) (l1 : Int32) (l2 : Int32) (l3 : Int32) (l4 : Int32) (l5 : Int32) (σ : Sg) : Option (Int32 × Sg) :=
  chk (ckO σ 1 l0) <|
  chk (ckV (gR σ l0 7)) <|
  chk (ckG σ (gR σ l0 7) l5) <|
  chk (ckR σ (gR σ l0 7) l5.toNatClampNeg (0 : Int32)) <|
  wlet (wG σ (gR σ l0 7) l5.toNatClampNeg (0 : Int32).toNatClampNeg l1) fun σ1 =>
  chk (ckO σ1 1 l0) <|
  chk (ckV (gR σ1 l0 7)) <|
  chk (ckG σ1 (gR σ1 l0 7) l5) <|
  chk (ckR σ1 (gR σ1 l0 7) l5.toNatClampNeg (1 : Int32)) <|
  wlet (wG σ1 (gR σ1 l0 7) l5.toNatClampNeg (1 : Int32).toNatClampNeg l2) fun σ2 =>
  chk (ckO σ2 1 l0) <|
  chk (ckV (gR σ2 l0 7)) <|
  chk (ckG σ2 (gR σ2 l0 7) l5) <|
  chk (ckR σ2 (gR σ2 l0 7) l5.toNatClampNeg (2 : Int32)) <|
  wlet (wG σ2 (gR σ2 l0 7) l5.toNatClampNeg (2 : Int32).toNatClampNeg l3) fun σ3 =>
  chk (ckO σ3 1 l0) <|
  chk (ckV (gR σ3 l0 7)) <|
  chk (ckG σ3 (gR σ3 l0 7) l5) <|
  chk (ckR σ3 (gR σ3 l0 7) l5.toNatClampNeg (3 : Int32)) <|
  wlet (wG σ3 (gR σ3 l0 7) l5.toNatClampNeg (3 : Int32).toNatClampNeg l4) fun σ4 =>
  some (l5, σ4)
theorem tX2_addStep_49 {r : Int32} {σ' : Sg} (C : Cx E p s m args meth c RX2 cX2_addStep 6) (hr : meth.sig.returnType = (some .int)) {l0 : Nat} {l1 : Int32} {l2 : Int32} {l3 : Int32} {l4 : Int32} {l5 : Int32} {σ : Sg} (h : DX2_addStep_49 l0 l1 l2 l3 l4 l5 σ = some (r, σ')) : Y E p l e (rmA 1 0 0) s m args below meth c (some (.int r)) σ' 0 0 6 0 0 σ 49 [some (.ref (ad E l0)), some (.int l1), some (.int l2), some (.int l3), some (.int l4), some (.int l5)] [] := by
  unfold DX2_addStep_49 at h
  refine x_aload_n (pc := 49) C dX2_addStep_49 rfl rfl ?_
  obtain ⟨k, h⟩ := chk_s h
  have k2 := k
  obtain ⟨k, h⟩ := chk_s h
  refine x_getR (pc := 50) C fX2_36 rfl k2 k dX2_addStep_50 ?_
  refine x_iload (pc := 53) C dX2_addStep_53 rfl ?_
  obtain ⟨k, h⟩ := chk_s h
  refine x_gald (pc := 55) C k dX2_addStep_55 ?_
  refine x_iconst (v := 0) (pc := 56) C dX2_addStep_56 (by decide) ?_
  refine x_iload_n (pc := 57) C dX2_addStep_57 rfl rfl ?_
  obtain ⟨k, h⟩ := chk_s h
  obtain ⟨σ1, e1, h⟩ := wlet_s h
  refine x_rast (pc := 58) C k dX2_addStep_58 (x_eq e1 ?_)
  refine x_aload_n (pc := 59) C dX2_addStep_59 rfl rfl ?_
  obtain ⟨k, h⟩ := chk_s h
  have k2 := k
  obtain ⟨k, h⟩ := chk_s h
  refine x_getR (pc := 60) C fX2_36 rfl k2 k dX2_addStep_60 ?_
  refine x_iload (pc := 63) C dX2_addStep_63 rfl ?_
  obtain ⟨k, h⟩ := chk_s h
  refine x_gald (pc := 65) C k dX2_addStep_65 ?_
  refine x_iconst (v := 1) (pc := 66) C dX2_addStep_66 (by decide) ?_
  refine x_iload_n (pc := 67) C dX2_addStep_67 rfl rfl ?_
  obtain ⟨k, h⟩ := chk_s h
  obtain ⟨σ2, e1, h⟩ := wlet_s h
  refine x_rast (pc := 68) C k dX2_addStep_68 (x_eq e1 ?_)
  refine x_aload_n (pc := 69) C dX2_addStep_69 rfl rfl ?_
  obtain ⟨k, h⟩ := chk_s h
  have k2 := k
  obtain ⟨k, h⟩ := chk_s h
  refine x_getR (pc := 70) C fX2_36 rfl k2 k dX2_addStep_70 ?_
  refine x_iload (pc := 73) C dX2_addStep_73 rfl ?_
  obtain ⟨k, h⟩ := chk_s h
  refine x_gald (pc := 75) C k dX2_addStep_75 ?_
  refine x_iconst (v := 2) (pc := 76) C dX2_addStep_76 (by decide) ?_
  refine x_iload_n (pc := 77) C dX2_addStep_77 rfl rfl ?_
  obtain ⟨k, h⟩ := chk_s h
  obtain ⟨σ3, e1, h⟩ := wlet_s h
  refine x_rast (pc := 78) C k dX2_addStep_78 (x_eq e1 ?_)
  refine x_aload_n (pc := 79) C dX2_addStep_79 rfl rfl ?_
  obtain ⟨k, h⟩ := chk_s h
  have k2 := k
  obtain ⟨k, h⟩ := chk_s h
  refine x_getR (pc := 80) C fX2_36 rfl k2 k dX2_addStep_80 ?_
  refine x_iload (pc := 83) C dX2_addStep_83 rfl ?_
  obtain ⟨k, h⟩ := chk_s h
  refine x_gald (pc := 85) C k dX2_addStep_85 ?_
  refine x_iconst (v := 3) (pc := 86) C dX2_addStep_86 (by decide) ?_
  refine x_iload (pc := 87) C dX2_addStep_87 rfl ?_
  obtain ⟨k, h⟩ := chk_s h
  obtain ⟨σ4, e1, h⟩ := wlet_s h
  refine x_rast (pc := 89) C k dX2_addStep_89 (x_eq e1 ?_)
  refine x_iload (pc := 90) C dX2_addStep_90 rfl ?_
  cases h
  exact x_iret C hr dX2_addStep_92
def DX2_addStep (l0 : Nat) (l1 : Int32) (l2 : Int32) (l3 : Int32) (l4 : Int32) (σ : Sg) : Option (Int32 × Sg) :=
  chk (ckO σ 1 l0) <|
  chk (ckO σ 1 l0) <|
  chk (ckN (14 : Int32)) <|
  chk (ckO σ 1 l0) <|
  if (14 : Int32) ≤ (gI σ l0 10) then
    chk (ckO σ 1 l0) <|
    chk (ckN (14 : Int32)) <|
    chk (ckO σ 1 l0) <|
    wlet (pI σ l0 9 (((gI σ l0 9) + (1 : Int32)) - ((gI σ l0 9) + (1 : Int32)) / (14 : Int32) * (14 : Int32))) fun σ1 =>
    DX2_addStep_49 l0 l1 l2 l3 l4 (((gI σ l0 9) + (gI σ l0 10)) - ((gI σ l0 9) + (gI σ l0 10)) / (14 : Int32) * (14 : Int32)) σ1
  else
    chk (ckO σ 1 l0) <|
    chk (ckO σ 1 l0) <|
    wlet (pI σ l0 10 ((gI σ l0 10) + (1 : Int32))) fun σ2 =>
    DX2_addStep_49 l0 l1 l2 l3 l4 (((gI σ l0 9) + (gI σ l0 10)) - ((gI σ l0 9) + (gI σ l0 10)) / (14 : Int32) * (14 : Int32)) σ2
theorem mX2_addStep (E : Ev) (l : Launch) {l0 : Nat} {l1 : Int32} {l2 : Int32} {l3 : Int32} {l4 : Int32} {σ : Sg} {r : Int32} {σ' : Sg} (h : DX2_addStep l0 l1 l2 l3 l4 σ = some (r, σ')) : Mt E l yX2_addStep cX2_addStep 6 (some .int) 1 0 0 [.ref (ad E l0), .int l1, .int l2, .int l3, .int l4] σ (some (.int r)) σ' := by
  refine Mt.ofX (by decide) (Nat.le_of_ble_eq_true rfl) (L0 := [some (.ref (ad E l0)), some (.int l1), some (.int l2), some (.int l3), some (.int l4), none]) (xEntN_ok [.ref (ad E l0), .int l1, .int l2, .int l3, .int l4] 6) (fun p e s m args below meth c C hr hn => ?_)
  unfold DX2_addStep at h
  refine x_aload_n (pc := 0) C dX2_addStep_0 rfl rfl ?_
  obtain ⟨k, h⟩ := chk_s h
  refine x_getI (pc := 1) C fX2_42 rfl k dX2_addStep_1 ?_
  refine x_aload_n (pc := 4) C dX2_addStep_4 rfl rfl ?_
  obtain ⟨k, h⟩ := chk_s h
  refine x_getI (pc := 5) C fX2_46 rfl k dX2_addStep_5 ?_
  refine x_iadd (pc := 8) C dX2_addStep_8 ?_
  refine x_bipush (v := 14) (pc := 9) C dX2_addStep_9 (by decide) ?_
  obtain ⟨k, h⟩ := chk_s h
  refine x_irem (pc := 11) C dX2_addStep_11 (ckN_s k) ?_
  refine x_istore (M := [some _, some _, some _, some _, some _, some _]) (pc := 12) C dX2_addStep_12 (by decide) rfl ?_
  refine x_aload_n (pc := 14) C dX2_addStep_14 rfl rfl ?_
  obtain ⟨k, h⟩ := chk_s h
  refine x_getI (pc := 15) C fX2_46 rfl k dX2_addStep_15 ?_
  refine x_bipush (v := 14) (pc := 18) C dX2_addStep_18 (by decide) ?_
  refine x_icmp_ge (pc := 20) (tgt := 36) C dX2_addStep_20 (by decide) (fun q => ?_) (fun q => ?_)
  · rw [if_pos q] at h
    refine x_aload_n (pc := 36) C dX2_addStep_36 rfl rfl ?_
    refine x_aload_n (pc := 37) C dX2_addStep_37 rfl rfl ?_
    obtain ⟨k, h⟩ := chk_s h
    refine x_getI (pc := 38) C fX2_42 rfl k dX2_addStep_38 ?_
    refine x_iconst (v := 1) (pc := 41) C dX2_addStep_41 (by decide) ?_
    refine x_iadd (pc := 42) C dX2_addStep_42 ?_
    refine x_bipush (v := 14) (pc := 43) C dX2_addStep_43 (by decide) ?_
    obtain ⟨k, h⟩ := chk_s h
    refine x_irem (pc := 45) C dX2_addStep_45 (ckN_s k) ?_
    obtain ⟨k, h⟩ := chk_s h
    obtain ⟨σ1, e1, h⟩ := wlet_s h
    refine x_putI (pc := 46) C pX2_42 rfl k dX2_addStep_46 (x_eq e1 ?_)
    exact x_sub (tX2_addStep_49 C hr h) (xLe_s (xLe_s (xLe_s (xLe_s (xLe_s (xLe_s xLe_0))))))
  · rw [if_neg q] at h
    refine x_aload_n (pc := 23) C dX2_addStep_23 rfl rfl ?_
    refine x_dup (pc := 24) C dX2_addStep_24 rfl ?_
    obtain ⟨k, h⟩ := chk_s h
    refine x_getI (pc := 25) C fX2_46 rfl k dX2_addStep_25 ?_
    refine x_iconst (v := 1) (pc := 28) C dX2_addStep_28 (by decide) ?_
    refine x_iadd (pc := 29) C dX2_addStep_29 ?_
    obtain ⟨k, h⟩ := chk_s h
    obtain ⟨σ2, e1, h⟩ := wlet_s h
    refine x_putI (pc := 30) C pX2_46 rfl k dX2_addStep_30 (x_eq e1 ?_)
    refine x_goto (tgt := 49) (pc := 33) C dX2_addStep_33 (by decide) ?_
    exact x_sub (tX2_addStep_49 C hr h) (xLe_s (xLe_s (xLe_s (xLe_s (xLe_s (xLe_s xLe_0))))))
def DX2_addToBill_41 (σ : Sg) : Option (Unit × Sg) :=
  some ((), σ)
theorem tX2_addToBill_41 {r : Unit} {σ' : Sg} (C : Cx E p s m args meth c RX2 cX2_addToBill 4) (hr : meth.sig.returnType = none) {σ : Sg} (h : DX2_addToBill_41  σ = some (r, σ')) : Y E p l e (rmA 1 0 0) s m args below meth c none σ' 0 0 4 0 0 σ 41 [none, none, none, none] [] := by
  unfold DX2_addToBill_41 at h
  cases h
  exact x_vret C hr dX2_addToBill_41
def DX2_addToBill (l0 : Nat) (l1 : Int32) (l2 : Int32) (l3 : Int32) (σ : Sg) : Option (Unit × Sg) :=
  chk (ckO σ 1 l0) <|
  chk (ckV (gR σ l0 3)) <|
  chk (ckG σ (gR σ l0 3) l1) <|
  chk (ckR σ (gR σ l0 3) l1.toNatClampNeg l2) <|
  chk (ckO σ 1 l0) <|
  chk (ckV (gR σ l0 0)) <|
  chk (ckI σ (gR σ l0 0) l1) <|
  if (aG σ (gR σ l0 3) l1.toNatClampNeg l2.toNatClampNeg) = (aI σ (gR σ l0 0) l1.toNatClampNeg) then
    DX2_addToBill_41 σ
  else
    chk (ckO σ 1 l0) <|
    chk (ckV (gR σ l0 5)) <|
    chk (ckO σ 1 l0) <|
    chk (ckV (gR σ l0 3)) <|
    chk (ckG σ (gR σ l0 3) l1) <|
    chk (ckR σ (gR σ l0 3) l1.toNatClampNeg l2) <|
    chk (ckG σ (gR σ l0 5) (aG σ (gR σ l0 3) l1.toNatClampNeg l2.toNatClampNeg)) <|
    chk (ckO σ 1 l0) <|
    chk (ckV (gR σ l0 0)) <|
    chk (ckI σ (gR σ l0 0) l1) <|
    chk (ckR σ (gR σ l0 5) ((aG σ (gR σ l0 3) l1.toNatClampNeg l2.toNatClampNeg).toNatClampNeg) (aI σ (gR σ l0 0) l1.toNatClampNeg)) <|
    chk (ckR σ (gR σ l0 5) ((aG σ (gR σ l0 3) l1.toNatClampNeg l2.toNatClampNeg).toNatClampNeg) (aI σ (gR σ l0 0) l1.toNatClampNeg)) <|
    wlet (wG σ (gR σ l0 5) ((aG σ (gR σ l0 3) l1.toNatClampNeg l2.toNatClampNeg).toNatClampNeg) (aI σ (gR σ l0 0) l1.toNatClampNeg).toNatClampNeg ((aG σ (gR σ l0 5) ((aG σ (gR σ l0 3) l1.toNatClampNeg l2.toNatClampNeg).toNatClampNeg) (aI σ (gR σ l0 0) l1.toNatClampNeg).toNatClampNeg) + l3)) fun σ1 =>
    DX2_addToBill_41 σ1
theorem mX2_addToBill (E : Ev) (l : Launch) {l0 : Nat} {l1 : Int32} {l2 : Int32} {l3 : Int32} {σ : Sg} {r : Unit} {σ' : Sg} (h : DX2_addToBill l0 l1 l2 l3 σ = some (r, σ')) : Mt E l yX2_addToBill cX2_addToBill 4 none 1 0 0 [.ref (ad E l0), .int l1, .int l2, .int l3] σ none σ' := by
  refine Mt.ofX (by decide) (Nat.le_of_ble_eq_true rfl) (L0 := [some (.ref (ad E l0)), some (.int l1), some (.int l2), some (.int l3)]) (xEntN_ok [.ref (ad E l0), .int l1, .int l2, .int l3] 4) (fun p e s m args below meth c C hr hn => ?_)
  unfold DX2_addToBill at h
  refine x_aload_n (pc := 0) C dX2_addToBill_0 rfl rfl ?_
  obtain ⟨k, h⟩ := chk_s h
  have k2 := k
  obtain ⟨k, h⟩ := chk_s h
  refine x_getR (pc := 1) C fX2_24 rfl k2 k dX2_addToBill_1 ?_
  refine x_iload_n (pc := 4) C dX2_addToBill_4 rfl rfl ?_
  obtain ⟨k, h⟩ := chk_s h
  refine x_gald (pc := 5) C k dX2_addToBill_5 ?_
  refine x_iload_n (pc := 6) C dX2_addToBill_6 rfl rfl ?_
  obtain ⟨k, h⟩ := chk_s h
  refine x_rald (pc := 7) C k dX2_addToBill_7 ?_
  refine x_aload_n (pc := 8) C dX2_addToBill_8 rfl rfl ?_
  obtain ⟨k, h⟩ := chk_s h
  have k2 := k
  obtain ⟨k, h⟩ := chk_s h
  refine x_getR (pc := 9) C fX2_9 rfl k2 k dX2_addToBill_9 ?_
  refine x_iload_n (pc := 12) C dX2_addToBill_12 rfl rfl ?_
  obtain ⟨k, h⟩ := chk_s h
  refine x_iald (pc := 13) C k dX2_addToBill_13 ?_
  refine x_icmp_eq (pc := 14) (tgt := 41) C dX2_addToBill_14 (by decide) (fun q => ?_) (fun q => ?_)
  · rw [if_pos q] at h
    exact x_sub (tX2_addToBill_41 C hr h) (xLe_n (xLe_n (xLe_n (xLe_n xLe_0))))
  · rw [if_neg q] at h
    refine x_aload_n (pc := 17) C dX2_addToBill_17 rfl rfl ?_
    obtain ⟨k, h⟩ := chk_s h
    have k2 := k
    obtain ⟨k, h⟩ := chk_s h
    refine x_getR (pc := 18) C fX2_30 rfl k2 k dX2_addToBill_18 ?_
    refine x_aload_n (pc := 21) C dX2_addToBill_21 rfl rfl ?_
    obtain ⟨k, h⟩ := chk_s h
    have k2 := k
    obtain ⟨k, h⟩ := chk_s h
    refine x_getR (pc := 22) C fX2_24 rfl k2 k dX2_addToBill_22 ?_
    refine x_iload_n (pc := 25) C dX2_addToBill_25 rfl rfl ?_
    obtain ⟨k, h⟩ := chk_s h
    refine x_gald (pc := 26) C k dX2_addToBill_26 ?_
    refine x_iload_n (pc := 27) C dX2_addToBill_27 rfl rfl ?_
    obtain ⟨k, h⟩ := chk_s h
    refine x_rald (pc := 28) C k dX2_addToBill_28 ?_
    obtain ⟨k, h⟩ := chk_s h
    refine x_gald (pc := 29) C k dX2_addToBill_29 ?_
    refine x_aload_n (pc := 30) C dX2_addToBill_30 rfl rfl ?_
    obtain ⟨k, h⟩ := chk_s h
    have k2 := k
    obtain ⟨k, h⟩ := chk_s h
    refine x_getR (pc := 31) C fX2_9 rfl k2 k dX2_addToBill_31 ?_
    refine x_iload_n (pc := 34) C dX2_addToBill_34 rfl rfl ?_
    obtain ⟨k, h⟩ := chk_s h
    refine x_iald (pc := 35) C k dX2_addToBill_35 ?_
    refine x_dup2 (pc := 36) C dX2_addToBill_36 rfl rfl ?_
    obtain ⟨k, h⟩ := chk_s h
    refine x_rald (pc := 37) C k dX2_addToBill_37 ?_
    refine x_iload_n (pc := 38) C dX2_addToBill_38 rfl rfl ?_
    refine x_iadd (pc := 39) C dX2_addToBill_39 ?_
    obtain ⟨k, h⟩ := chk_s h
    obtain ⟨σ1, e1, h⟩ := wlet_s h
    refine x_rast (pc := 40) C k dX2_addToBill_40 (x_eq e1 ?_)
    exact x_sub (tX2_addToBill_41 C hr h) (xLe_n (xLe_n (xLe_n (xLe_n xLe_0))))
def DX2_flyNext (l0 : Nat) (l1 : Int32) (l2 : Int32) (σ : Sg) : Option (Unit × Sg) :=
  chk (ckO σ 1 l0) <|
  chk (ckV (gR σ l0 1)) <|
  chk (ckI σ (gR σ l0 1) l1) <|
  if (aI σ (gR σ l0 1) l1.toNatClampNeg) < (8 : Int32) then
    chk (ckO σ 1 l0) <|
    chk (ckV (gR σ l0 4)) <|
    chk (ckG σ (gR σ l0 4) l1) <|
    chk (ckR σ (gR σ l0 4) l1.toNatClampNeg (aI σ (gR σ l0 1) l1.toNatClampNeg)) <|
    wlet (wG σ (gR σ l0 4) l1.toNatClampNeg (aI σ (gR σ l0 1) l1.toNatClampNeg).toNatClampNeg l2) fun σ1 =>
    chk (ckO σ1 1 l0) <|
    bnd (DX2_addToBill l0 l1 (aI σ (gR σ l0 1) l1.toNatClampNeg) l2 σ1) fun _ σ2 =>
    chk (ckO σ2 1 l0) <|
    chk (ckV (gR σ2 l0 1)) <|
    chk (ckI σ2 (gR σ2 l0 1) l1) <|
    chk (ckI σ2 (gR σ2 l0 1) l1) <|
    wlet (wI σ2 (gR σ2 l0 1) l1.toNatClampNeg ((aI σ2 (gR σ2 l0 1) l1.toNatClampNeg) + (1 : Int32))) fun σ3 =>
    chk (ckO σ3 1 l0) <|
    bnd (DX2_addStep l0 (0 : Int32) l1 (aI σ (gR σ l0 1) l1.toNatClampNeg) (-1 : Int32) σ3) fun v4 σ5 =>
    some ((), σ5)
  else
    some ((), σ)
theorem mX2_flyNext (E : Ev) (l : Launch) {l0 : Nat} {l1 : Int32} {l2 : Int32} {σ : Sg} {r : Unit} {σ' : Sg} (h : DX2_flyNext l0 l1 l2 σ = some (r, σ')) : Mt E l yX2_flyNext cX2_flyNext 4 none 2 0 0 [.ref (ad E l0), .int l1, .int l2] σ none σ' := by
  refine Mt.ofX (by decide) (Nat.le_of_ble_eq_true rfl) (L0 := [some (.ref (ad E l0)), some (.int l1), some (.int l2), none]) (xEntN_ok [.ref (ad E l0), .int l1, .int l2] 4) (fun p e s m args below meth c C hr hn => ?_)
  unfold DX2_flyNext at h
  refine x_aload_n (pc := 0) C dX2_flyNext_0 rfl rfl ?_
  obtain ⟨k, h⟩ := chk_s h
  have k2 := k
  obtain ⟨k, h⟩ := chk_s h
  refine x_getR (pc := 1) C fX2_15 rfl k2 k dX2_flyNext_1 ?_
  refine x_iload_n (pc := 4) C dX2_flyNext_4 rfl rfl ?_
  obtain ⟨k, h⟩ := chk_s h
  refine x_iald (pc := 5) C k dX2_flyNext_5 ?_
  refine x_istore_n (M := [some _, some _, some _, some _]) (pc := 6) C dX2_flyNext_6 rfl (by decide) rfl ?_
  refine x_iload_n (pc := 7) C dX2_flyNext_7 rfl rfl ?_
  refine x_bipush (v := 8) (pc := 8) C dX2_flyNext_8 (by decide) ?_
  refine x_icmp_lt (pc := 10) (tgt := 14) C dX2_flyNext_10 (by decide) (fun q => ?_) (fun q => ?_)
  · rw [if_pos q] at h
    refine x_aload_n (pc := 14) C dX2_flyNext_14 rfl rfl ?_
    obtain ⟨k, h⟩ := chk_s h
    have k2 := k
    obtain ⟨k, h⟩ := chk_s h
    refine x_getR (pc := 15) C fX2_27 rfl k2 k dX2_flyNext_15 ?_
    refine x_iload_n (pc := 18) C dX2_flyNext_18 rfl rfl ?_
    obtain ⟨k, h⟩ := chk_s h
    refine x_gald (pc := 19) C k dX2_flyNext_19 ?_
    refine x_iload_n (pc := 20) C dX2_flyNext_20 rfl rfl ?_
    refine x_iload_n (pc := 21) C dX2_flyNext_21 rfl rfl ?_
    obtain ⟨k, h⟩ := chk_s h
    obtain ⟨σ1, e1, h⟩ := wlet_s h
    refine x_rast (pc := 22) C k dX2_flyNext_22 (x_eq e1 ?_)
    refine x_aload_n (pc := 23) C dX2_flyNext_23 rfl rfl ?_
    refine x_iload_n (pc := 24) C dX2_flyNext_24 rfl rfl ?_
    refine x_iload_n (pc := 25) C dX2_flyNext_25 rfl rfl ?_
    refine x_iload_n (pc := 26) C dX2_flyNext_26 rfl rfl ?_
    obtain ⟨k, h⟩ := chk_s h
    have k2 := k
    obtain ⟨u0, σ2, k, h⟩ := bnd_s h
    refine x_callV0 (pc := 27) C (mX2_addToBill E l k) cl1 k2 cX2_55 nX2_addToBill sX2_addToBill rfl rfl (Nat.le_of_ble_eq_true rfl) ⟨Nat.le_of_ble_eq_true rfl, Nat.le_of_ble_eq_true rfl, Nat.le_of_ble_eq_true rfl, Nat.le_of_ble_eq_true rfl⟩ dX2_flyNext_27 ?_
    refine x_aload_n (pc := 30) C dX2_flyNext_30 rfl rfl ?_
    obtain ⟨k, h⟩ := chk_s h
    have k2 := k
    obtain ⟨k, h⟩ := chk_s h
    refine x_getR (pc := 31) C fX2_15 rfl k2 k dX2_flyNext_31 ?_
    refine x_iload_n (pc := 34) C dX2_flyNext_34 rfl rfl ?_
    refine x_dup2 (pc := 35) C dX2_flyNext_35 rfl rfl ?_
    obtain ⟨k, h⟩ := chk_s h
    refine x_iald (pc := 36) C k dX2_flyNext_36 ?_
    refine x_iconst (v := 1) (pc := 37) C dX2_flyNext_37 (by decide) ?_
    refine x_iadd (pc := 38) C dX2_flyNext_38 ?_
    obtain ⟨k, h⟩ := chk_s h
    obtain ⟨σ3, e1, h⟩ := wlet_s h
    refine x_iast (pc := 39) C k dX2_flyNext_39 (x_eq e1 ?_)
    refine x_aload_n (pc := 40) C dX2_flyNext_40 rfl rfl ?_
    refine x_iconst (v := 0) (pc := 41) C dX2_flyNext_41 (by decide) ?_
    refine x_iload_n (pc := 42) C dX2_flyNext_42 rfl rfl ?_
    refine x_iload_n (pc := 43) C dX2_flyNext_43 rfl rfl ?_
    refine x_iconst (v := -1) (pc := 44) C dX2_flyNext_44 (by decide) ?_
    obtain ⟨k, h⟩ := chk_s h
    have k2 := k
    obtain ⟨v4, σ5, k, h⟩ := bnd_s h
    refine x_callV1 (pc := 45) C (mX2_addStep E l k) cl1 k2 cX2_59 nX2_addStep sX2_addStep rfl rfl (Nat.le_of_ble_eq_true rfl) ⟨Nat.le_of_ble_eq_true rfl, Nat.le_of_ble_eq_true rfl, Nat.le_of_ble_eq_true rfl, Nat.le_of_ble_eq_true rfl⟩ dX2_flyNext_45 ?_
    refine x_pop (pc := 48) C dX2_flyNext_48 rfl ?_
    cases h
    exact x_vret C hr dX2_flyNext_49
  · rw [if_neg q] at h
    cases h
    exact x_vret C hr dX2_flyNext_13
def DX2_endorseTo (l0 : Nat) (l1 : Int32) (l2 : Int32) (l3 : Int32) (σ : Sg) : Option (Unit × Sg) :=
  chk (ckO σ 1 l0) <|
  chk (ckV (gR σ l0 3)) <|
  chk (ckG σ (gR σ l0 3) l1) <|
  chk (ckR σ (gR σ l0 3) l1.toNatClampNeg l2) <|
  chk (ckO σ 1 l0) <|
  bnd (DX2_addStep l0 (1 : Int32) l1 l2 (aG σ (gR σ l0 3) l1.toNatClampNeg l2.toNatClampNeg) σ) fun v1 σ2 =>
  chk (ckO σ2 1 l0) <|
  chk (ckV (gR σ2 l0 3)) <|
  chk (ckG σ2 (gR σ2 l0 3) l1) <|
  chk (ckR σ2 (gR σ2 l0 3) l1.toNatClampNeg l2) <|
  wlet (wG σ2 (gR σ2 l0 3) l1.toNatClampNeg l2.toNatClampNeg l3) fun σ3 =>
  some ((), σ3)
theorem mX2_endorseTo (E : Ev) (l : Launch) {l0 : Nat} {l1 : Int32} {l2 : Int32} {l3 : Int32} {σ : Sg} {r : Unit} {σ' : Sg} (h : DX2_endorseTo l0 l1 l2 l3 σ = some (r, σ')) : Mt E l yX2_endorseTo cX2_endorseTo 4 none 2 0 0 [.ref (ad E l0), .int l1, .int l2, .int l3] σ none σ' := by
  refine Mt.ofX (by decide) (Nat.le_of_ble_eq_true rfl) (L0 := [some (.ref (ad E l0)), some (.int l1), some (.int l2), some (.int l3)]) (xEntN_ok [.ref (ad E l0), .int l1, .int l2, .int l3] 4) (fun p e s m args below meth c C hr hn => ?_)
  unfold DX2_endorseTo at h
  refine x_aload_n (pc := 0) C dX2_endorseTo_0 rfl rfl ?_
  refine x_iconst (v := 1) (pc := 1) C dX2_endorseTo_1 (by decide) ?_
  refine x_iload_n (pc := 2) C dX2_endorseTo_2 rfl rfl ?_
  refine x_iload_n (pc := 3) C dX2_endorseTo_3 rfl rfl ?_
  refine x_aload_n (pc := 4) C dX2_endorseTo_4 rfl rfl ?_
  obtain ⟨k, h⟩ := chk_s h
  have k2 := k
  obtain ⟨k, h⟩ := chk_s h
  refine x_getR (pc := 5) C fX2_24 rfl k2 k dX2_endorseTo_5 ?_
  refine x_iload_n (pc := 8) C dX2_endorseTo_8 rfl rfl ?_
  obtain ⟨k, h⟩ := chk_s h
  refine x_gald (pc := 9) C k dX2_endorseTo_9 ?_
  refine x_iload_n (pc := 10) C dX2_endorseTo_10 rfl rfl ?_
  obtain ⟨k, h⟩ := chk_s h
  refine x_rald (pc := 11) C k dX2_endorseTo_11 ?_
  obtain ⟨k, h⟩ := chk_s h
  have k2 := k
  obtain ⟨v1, σ2, k, h⟩ := bnd_s h
  refine x_callV1 (pc := 12) C (mX2_addStep E l k) cl1 k2 cX2_59 nX2_addStep sX2_addStep rfl rfl (Nat.le_of_ble_eq_true rfl) ⟨Nat.le_of_ble_eq_true rfl, Nat.le_of_ble_eq_true rfl, Nat.le_of_ble_eq_true rfl, Nat.le_of_ble_eq_true rfl⟩ dX2_endorseTo_12 ?_
  refine x_pop (pc := 15) C dX2_endorseTo_15 rfl ?_
  refine x_aload_n (pc := 16) C dX2_endorseTo_16 rfl rfl ?_
  obtain ⟨k, h⟩ := chk_s h
  have k2 := k
  obtain ⟨k, h⟩ := chk_s h
  refine x_getR (pc := 17) C fX2_24 rfl k2 k dX2_endorseTo_17 ?_
  refine x_iload_n (pc := 20) C dX2_endorseTo_20 rfl rfl ?_
  obtain ⟨k, h⟩ := chk_s h
  refine x_gald (pc := 21) C k dX2_endorseTo_21 ?_
  refine x_iload_n (pc := 22) C dX2_endorseTo_22 rfl rfl ?_
  refine x_iload_n (pc := 23) C dX2_endorseTo_23 rfl rfl ?_
  obtain ⟨k, h⟩ := chk_s h
  obtain ⟨σ3, e1, h⟩ := wlet_s h
  refine x_rast (pc := 24) C k dX2_endorseTo_24 (x_eq e1 ?_)
  cases h
  exact x_vret C hr dX2_endorseTo_25
def DX4_init (l0 : Nat) (σ : Sg) : Option (Unit × Sg) :=
  chk (ckW σ 2 6 0) <|
  bnd (some (gN σ, mk1 σ)) fun a2 σ1 =>
  chk (ckO σ1 3 l0) <|
  chk (ckV a2) <|
  wlet (pR σ1 l0 0 a2) fun σ3 =>
  chk (ckW σ3 5 6 3) <|
  bnd (some (gN σ3, mk1 σ3)) fun a5 σ4 =>
  chk (ckO σ4 3 l0) <|
  chk (ckV a5) <|
  wlet (pR σ4 l0 1 a5) fun σ6 =>
  chk (ckO σ6 3 l0) <|
  wlet (pI σ6 l0 2 (0 : Int32)) fun σ7 =>
  some ((), σ7)
theorem mX4_init (E : Ev) (l : Launch) {l0 : Nat} {σ : Sg} {r : Unit} {σ' : Sg} (h : DX4_init l0 σ = some (r, σ')) : Mt E l yX4_init cX4_init 1 none 1 8 30 [.ref (ad E l0)] σ none σ' := by
  refine Mt.ofX (by decide) (Nat.le_of_ble_eq_true rfl) (L0 := [some (.ref (ad E l0))]) (xEntN_ok [.ref (ad E l0)] 1) (fun p e s m args below meth c C hr hn => ?_)
  unfold DX4_init at h
  refine x_aload_n (pc := 0) C dX4_init_0 rfl rfl ?_
  refine x_objInit (pc := 1) C oX4_3 oi1 oi2 ⟨Nat.le_of_ble_eq_true rfl, Nat.le_of_ble_eq_true rfl⟩ dX4_init_1 ?_
  refine x_aload_n (pc := 4) C dX4_init_4 rfl rfl ?_
  refine x_bipush (v := 6) (pc := 5) C dX4_init_5 (by decide) ?_
  obtain ⟨k, h⟩ := chk_s h
  have k2 := k
  obtain ⟨a2, σ1, e1, h⟩ := bnd_s h
  refine x_newI (N := 6) (pc := 7) C aaI (by decide) (by decide) k2 (by decide) ⟨Nat.le_of_ble_eq_true rfl, Nat.le_of_ble_eq_true rfl⟩ dX4_init_7 (x_mkE e1 ?_)
  obtain ⟨k, h⟩ := chk_s h
  have k2 := k
  obtain ⟨k, h⟩ := chk_s h
  obtain ⟨σ3, e1, h⟩ := wlet_s h
  refine x_putQ (pc := 9) C qX4_9 hn (Or.inr ⟨_, rfl⟩) k2 k dX4_init_9 (x_eq e1 ?_)
  refine x_aload_n (pc := 12) C dX4_init_12 rfl rfl ?_
  refine x_bipush (v := 6) (pc := 13) C dX4_init_13 (by decide) ?_
  refine x_iconst (v := 3) (pc := 15) C dX4_init_15 (by decide) ?_
  obtain ⟨k, h⟩ := chk_s h
  have k2 := k
  obtain ⟨a5, σ4, e1, h⟩ := bnd_s h
  refine x_newG (N := 6) (K := 3) (pc := 16) C wX4_15 aaI (by decide) (by decide) (by decide) (by decide) k2 (by decide) ⟨Nat.le_of_ble_eq_true rfl, Nat.le_of_ble_eq_true rfl⟩ dX4_init_16 (x_mkE e1 ?_)
  obtain ⟨k, h⟩ := chk_s h
  have k2 := k
  obtain ⟨k, h⟩ := chk_s h
  obtain ⟨σ6, e1, h⟩ := wlet_s h
  refine x_putQ (pc := 20) C qX4_17 hn (Or.inr ⟨_, rfl⟩) k2 k dX4_init_20 (x_eq e1 ?_)
  refine x_aload_n (pc := 23) C dX4_init_23 rfl rfl ?_
  refine x_iconst (v := 0) (pc := 24) C dX4_init_24 (by decide) ?_
  obtain ⟨k, h⟩ := chk_s h
  obtain ⟨σ7, e1, h⟩ := wlet_s h
  refine x_putI (pc := 25) C pX4_20 rfl k dX4_init_25 (x_eq e1 ?_)
  cases h
  exact x_vret C hr dX4_init_28
end

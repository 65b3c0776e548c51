section
variable {E : Ev} {p : Program} {l : Launch} {e : Env} {s : State} {m : MethodId} {args : Array Value} {below : List Frame} {meth : Method} {c : Code}
def DX5_init (l0 : Nat) (l1 : Nat) (σ : Sg) : Option (Unit × Sg) :=
  chk (ckO σ 4 l0) <|
  wlet (pI σ l0 1 (0 : Int32)) fun σ1 =>
  chk (ckO σ1 4 l0) <|
  wlet (pI σ1 l0 2 (0 : Int32)) fun σ2 =>
  chk (ckO σ2 4 l0) <|
  wlet (pI σ2 l0 3 (0 : Int32)) fun σ3 =>
  chk (ckO σ3 4 l0) <|
  wlet (pI σ3 l0 4 (0 : Int32)) fun σ4 =>
  chk (ckO σ4 4 l0) <|
  wlet (pI σ4 l0 5 (-1 : Int32)) fun σ5 =>
  chk (ckW σ5 2 8 0) <|
  bnd (some (gN σ5, mk1 σ5)) fun a7 σ6 =>
  chk (ckO σ6 4 l0) <|
  chk (ckV a7) <|
  wlet (pR σ6 l0 6 a7) fun σ8 =>
  chk (ckW σ8 2 8 0) <|
  bnd (some (gN σ8, mk1 σ8)) fun a10 σ9 =>
  chk (ckO σ9 4 l0) <|
  chk (ckV a10) <|
  wlet (pR σ9 l0 7 a10) fun σ11 =>
  chk (ckW σ11 2 8 0) <|
  bnd (some (gN σ11, mk1 σ11)) fun a13 σ12 =>
  chk (ckO σ12 4 l0) <|
  chk (ckV a13) <|
  wlet (pR σ12 l0 8 a13) fun σ14 =>
  chk (ckW σ14 2 8 0) <|
  bnd (some (gN σ14, mk1 σ14)) fun a16 σ15 =>
  chk (ckO σ15 4 l0) <|
  chk (ckV a16) <|
  wlet (pR σ15 l0 9 a16) fun σ17 =>
  chk (ckW σ17 4 8 0) <|
  bnd (some (gN σ17, mk1 σ17)) fun a19 σ18 =>
  chk (ckO σ18 4 l0) <|
  chk (ckV a19) <|
  wlet (pR σ18 l0 10 a19) fun σ20 =>
  chk (ckW σ20 4 8 0) <|
  bnd (some (gN σ20, mk1 σ20)) fun a22 σ21 =>
  chk (ckO σ21 4 l0) <|
  chk (ckV a22) <|
  wlet (pR σ21 l0 11 a22) fun σ23 =>
  chk (ckW σ23 2 8 0) <|
  bnd (some (gN σ23, mk1 σ23)) fun a25 σ24 =>
  chk (ckO σ24 4 l0) <|
  chk (ckV a25) <|
  wlet (pR σ24 l0 12 a25) fun σ26 =>
  chk (ckW σ26 4 8 0) <|
  bnd (some (gN σ26, mk1 σ26)) fun a28 σ27 =>
  chk (ckO σ27 4 l0) <|
  chk (ckV a28) <|
  wlet (pR σ27 l0 13 a28) fun σ29 =>
  chk (ckW σ29 3 8 0) <|
  bnd (some (gN σ29, mk1 σ29)) fun a31 σ30 =>
  chk (ckO σ30 4 l0) <|
  chk (ckV a31) <|
  wlet (pR σ30 l0 14 a31) fun σ32 =>
  chk (ckO σ32 4 l0) <|
  wlet (pJ σ32 l0 15 (0 : Int64)) fun σ33 =>
  chk (ckO σ33 4 l0) <|
  wlet (pI σ33 l0 16 (0 : Int32)) fun σ34 =>
  chk (ckO σ34 4 l0) <|
  wlet (pI σ34 l0 17 (0 : Int32)) fun σ35 =>
  chk (ckO σ35 4 l0) <|
  chk (ckV l1) <|
  wlet (pR σ35 l0 0 l1) fun σ36 =>
  some ((), σ36)
theorem mX5_init (E : Ev) (l : Launch) {l0 : Nat} {l1 : Nat} {σ : Sg} {r : Unit} {σ' : Sg} (h : DX5_init l0 l1 σ = some (r, σ')) : Mt E l yX5_init cX5_init 2 none 1 9 72 [.ref (ad E l0), .ref (ad E l1)] σ none σ' := by
  refine Mt.ofX (by decide) (Nat.le_of_ble_eq_true rfl) (L0 := [some (.ref (ad E l0)), some (.ref (ad E l1))]) (xEntN_ok [.ref (ad E l0), .ref (ad E l1)] 2) (fun p e s m args below meth c C hr hn => ?_)
  unfold DX5_init at h
  refine x_aload_n (pc := 0) C dX5_init_0 rfl rfl ?_
  refine x_objInit (pc := 1) C oX5_3 oi1 oi2 ⟨Nat.le_of_ble_eq_true rfl, Nat.le_of_ble_eq_true rfl⟩ dX5_init_1 ?_
  refine x_aload_n (pc := 4) C dX5_init_4 rfl rfl ?_
  refine x_iconst (v := 0) (pc := 5) C dX5_init_5 (by decide) ?_
  obtain ⟨k, h⟩ := chk_s h
  obtain ⟨σ1, e1, h⟩ := wlet_s h
  refine x_putI (pc := 6) C pX5_9 rfl k dX5_init_6 (x_eq e1 ?_)
  refine x_aload_n (pc := 9) C dX5_init_9 rfl rfl ?_
  refine x_iconst (v := 0) (pc := 10) C dX5_init_10 (by decide) ?_
  obtain ⟨k, h⟩ := chk_s h
  obtain ⟨σ2, e1, h⟩ := wlet_s h
  refine x_putI (pc := 11) C pX5_15 rfl k dX5_init_11 (x_eq e1 ?_)
  refine x_aload_n (pc := 14) C dX5_init_14 rfl rfl ?_
  refine x_iconst (v := 0) (pc := 15) C dX5_init_15 (by decide) ?_
  obtain ⟨k, h⟩ := chk_s h
  obtain ⟨σ3, e1, h⟩ := wlet_s h
  refine x_putI (pc := 16) C pX5_18 rfl k dX5_init_16 (x_eq e1 ?_)
  refine x_aload_n (pc := 19) C dX5_init_19 rfl rfl ?_
  refine x_iconst (v := 0) (pc := 20) C dX5_init_20 (by decide) ?_
  obtain ⟨k, h⟩ := chk_s h
  obtain ⟨σ4, e1, h⟩ := wlet_s h
  refine x_putI (pc := 21) C pX5_21 rfl k dX5_init_21 (x_eq e1 ?_)
  refine x_aload_n (pc := 24) C dX5_init_24 rfl rfl ?_
  refine x_iconst (v := -1) (pc := 25) C dX5_init_25 (by decide) ?_
  obtain ⟨k, h⟩ := chk_s h
  obtain ⟨σ5, e1, h⟩ := wlet_s h
  refine x_putI (pc := 26) C pX5_24 rfl k dX5_init_26 (x_eq e1 ?_)
  refine x_aload_n (pc := 29) C dX5_init_29 rfl rfl ?_
  refine x_bipush (v := 8) (pc := 30) C dX5_init_30 (by decide) ?_
  obtain ⟨k, h⟩ := chk_s h
  have k2 := k
  obtain ⟨a7, σ6, e1, h⟩ := bnd_s h
  refine x_newI (N := 8) (pc := 32) C aaI (by decide) (by decide) k2 (by decide) ⟨Nat.le_of_ble_eq_true rfl, Nat.le_of_ble_eq_true rfl⟩ dX5_init_32 (x_mkE e1 ?_)
  obtain ⟨k, h⟩ := chk_s h
  have k2 := k
  obtain ⟨k, h⟩ := chk_s h
  obtain ⟨σ8, e1, h⟩ := wlet_s h
  refine x_putQ (pc := 34) C qX5_27 hn (Or.inr ⟨_, rfl⟩) k2 k dX5_init_34 (x_eq e1 ?_)
  refine x_aload_n (pc := 37) C dX5_init_37 rfl rfl ?_
  refine x_bipush (v := 8) (pc := 38) C dX5_init_38 (by decide) ?_
  obtain ⟨k, h⟩ := chk_s h
  have k2 := k
  obtain ⟨a10, σ9, e1, h⟩ := bnd_s h
  refine x_newI (N := 8) (pc := 40) C aaI (by decide) (by decide) k2 (by decide) ⟨Nat.le_of_ble_eq_true rfl, Nat.le_of_ble_eq_true rfl⟩ dX5_init_40 (x_mkE e1 ?_)
  obtain ⟨k, h⟩ := chk_s h
  have k2 := k
  obtain ⟨k, h⟩ := chk_s h
  obtain ⟨σ11, e1, h⟩ := wlet_s h
  refine x_putQ (pc := 42) C qX5_31 hn (Or.inr ⟨_, rfl⟩) k2 k dX5_init_42 (x_eq e1 ?_)
  refine x_aload_n (pc := 45) C dX5_init_45 rfl rfl ?_
  refine x_bipush (v := 8) (pc := 46) C dX5_init_46 (by decide) ?_
  obtain ⟨k, h⟩ := chk_s h
  have k2 := k
  obtain ⟨a13, σ12, e1, h⟩ := bnd_s h
  refine x_newI (N := 8) (pc := 48) C aaI (by decide) (by decide) k2 (by decide) ⟨Nat.le_of_ble_eq_true rfl, Nat.le_of_ble_eq_true rfl⟩ dX5_init_48 (x_mkE e1 ?_)
  obtain ⟨k, h⟩ := chk_s h
  have k2 := k
  obtain ⟨k, h⟩ := chk_s h
  obtain ⟨σ14, e1, h⟩ := wlet_s h
  refine x_putQ (pc := 50) C qX5_34 hn (Or.inr ⟨_, rfl⟩) k2 k dX5_init_50 (x_eq e1 ?_)
  refine x_aload_n (pc := 53) C dX5_init_53 rfl rfl ?_
  refine x_bipush (v := 8) (pc := 54) C dX5_init_54 (by decide) ?_
  obtain ⟨k, h⟩ := chk_s h
  have k2 := k
  obtain ⟨a16, σ15, e1, h⟩ := bnd_s h
  refine x_newI (N := 8) (pc := 56) C aaI (by decide) (by decide) k2 (by decide) ⟨Nat.le_of_ble_eq_true rfl, Nat.le_of_ble_eq_true rfl⟩ dX5_init_56 (x_mkE e1 ?_)
  obtain ⟨k, h⟩ := chk_s h
  have k2 := k
  obtain ⟨k, h⟩ := chk_s h
  obtain ⟨σ17, e1, h⟩ := wlet_s h
  refine x_putQ (pc := 58) C qX5_37 hn (Or.inr ⟨_, rfl⟩) k2 k dX5_init_58 (x_eq e1 ?_)
  refine x_aload_n (pc := 61) C dX5_init_61 rfl rfl ?_
  refine x_bipush (v := 8) (pc := 62) C dX5_init_62 (by decide) ?_
  obtain ⟨k, h⟩ := chk_s h
  have k2 := k
  obtain ⟨a19, σ18, e1, h⟩ := bnd_s h
  refine x_newJ (N := 8) (pc := 64) C aaJ (by decide) (by decide) k2 (by decide) ⟨Nat.le_of_ble_eq_true rfl, Nat.le_of_ble_eq_true rfl⟩ dX5_init_64 (x_mkE e1 ?_)
  obtain ⟨k, h⟩ := chk_s h
  have k2 := k
  obtain ⟨k, h⟩ := chk_s h
  obtain ⟨σ20, e1, h⟩ := wlet_s h
  refine x_putQ (pc := 66) C qX5_40 hn (Or.inr ⟨_, rfl⟩) k2 k dX5_init_66 (x_eq e1 ?_)
  refine x_aload_n (pc := 69) C dX5_init_69 rfl rfl ?_
  refine x_bipush (v := 8) (pc := 70) C dX5_init_70 (by decide) ?_
  obtain ⟨k, h⟩ := chk_s h
  have k2 := k
  obtain ⟨a22, σ21, e1, h⟩ := bnd_s h
  refine x_newJ (N := 8) (pc := 72) C aaJ (by decide) (by decide) k2 (by decide) ⟨Nat.le_of_ble_eq_true rfl, Nat.le_of_ble_eq_true rfl⟩ dX5_init_72 (x_mkE e1 ?_)
  obtain ⟨k, h⟩ := chk_s h
  have k2 := k
  obtain ⟨k, h⟩ := chk_s h
  obtain ⟨σ23, e1, h⟩ := wlet_s h
  refine x_putQ (pc := 74) C qX5_44 hn (Or.inr ⟨_, rfl⟩) k2 k dX5_init_74 (x_eq e1 ?_)
  refine x_aload_n (pc := 77) C dX5_init_77 rfl rfl ?_
  refine x_bipush (v := 8) (pc := 78) C dX5_init_78 (by decide) ?_
  obtain ⟨k, h⟩ := chk_s h
  have k2 := k
  obtain ⟨a25, σ24, e1, h⟩ := bnd_s h
  refine x_newI (N := 8) (pc := 80) C aaI (by decide) (by decide) k2 (by decide) ⟨Nat.le_of_ble_eq_true rfl, Nat.le_of_ble_eq_true rfl⟩ dX5_init_80 (x_mkE e1 ?_)
  obtain ⟨k, h⟩ := chk_s h
  have k2 := k
  obtain ⟨k, h⟩ := chk_s h
  obtain ⟨σ26, e1, h⟩ := wlet_s h
  refine x_putQ (pc := 82) C qX5_47 hn (Or.inr ⟨_, rfl⟩) k2 k dX5_init_82 (x_eq e1 ?_)
  refine x_aload_n (pc := 85) C dX5_init_85 rfl rfl ?_
  refine x_bipush (v := 8) (pc := 86) C dX5_init_86 (by decide) ?_
  obtain ⟨k, h⟩ := chk_s h
  have k2 := k
  obtain ⟨a28, σ27, e1, h⟩ := bnd_s h
  refine x_newJ (N := 8) (pc := 88) C aaJ (by decide) (by decide) k2 (by decide) ⟨Nat.le_of_ble_eq_true rfl, Nat.le_of_ble_eq_true rfl⟩ dX5_init_88 (x_mkE e1 ?_)
  obtain ⟨k, h⟩ := chk_s h
  have k2 := k
  obtain ⟨k, h⟩ := chk_s h
  obtain ⟨σ29, e1, h⟩ := wlet_s h
  refine x_putQ (pc := 90) C qX5_50 hn (Or.inr ⟨_, rfl⟩) k2 k dX5_init_90 (x_eq e1 ?_)
  refine x_aload_n (pc := 93) C dX5_init_93 rfl rfl ?_
  refine x_bipush (v := 8) (pc := 94) C dX5_init_94 (by decide) ?_
  obtain ⟨k, h⟩ := chk_s h
  have k2 := k
  obtain ⟨a31, σ30, e1, h⟩ := bnd_s h
  refine x_newZ (N := 8) (pc := 96) C aaZ (by decide) (by decide) k2 (by decide) ⟨Nat.le_of_ble_eq_true rfl, Nat.le_of_ble_eq_true rfl⟩ dX5_init_96 (x_mkE e1 ?_)
  obtain ⟨k, h⟩ := chk_s h
  have k2 := k
  obtain ⟨k, h⟩ := chk_s h
  obtain ⟨σ32, e1, h⟩ := wlet_s h
  refine x_putQ (pc := 98) C qX5_53 hn (Or.inr ⟨_, rfl⟩) k2 k dX5_init_98 (x_eq e1 ?_)
  refine x_aload_n (pc := 101) C dX5_init_101 rfl rfl ?_
  refine x_lconst (v := 0) (pc := 102) C dX5_init_102 (by decide) ?_
  obtain ⟨k, h⟩ := chk_s h
  obtain ⟨σ33, e1, h⟩ := wlet_s h
  refine x_putJ (pc := 103) C pX5_57 rfl k dX5_init_103 (x_eq e1 ?_)
  refine x_aload_n (pc := 106) C dX5_init_106 rfl rfl ?_
  refine x_iconst (v := 0) (pc := 107) C dX5_init_107 (by decide) ?_
  obtain ⟨k, h⟩ := chk_s h
  obtain ⟨σ34, e1, h⟩ := wlet_s h
  refine x_putI (pc := 108) C pX5_61 rfl k dX5_init_108 (x_eq e1 ?_)
  refine x_aload_n (pc := 111) C dX5_init_111 rfl rfl ?_
  refine x_iconst (v := 0) (pc := 112) C dX5_init_112 (by decide) ?_
  obtain ⟨k, h⟩ := chk_s h
  obtain ⟨σ35, e1, h⟩ := wlet_s h
  refine x_putI (pc := 113) C pX5_64 rfl k dX5_init_113 (x_eq e1 ?_)
  refine x_aload_n (pc := 116) C dX5_init_116 rfl rfl ?_
  refine x_aload_n (pc := 117) C dX5_init_117 rfl rfl ?_
  obtain ⟨k, h⟩ := chk_s h
  have k2 := k
  obtain ⟨k, h⟩ := chk_s h
  obtain ⟨σ36, e1, h⟩ := wlet_s h
  refine x_putR (pc := 118) C pX5_67 (Or.inl ⟨_, rfl⟩) k2 k dX5_init_118 (x_eq e1 ?_)
  cases h
  exact x_vret C hr dX5_init_121
def DX5_take_93 (σ : Sg) : Option (Unit × Sg) :=
  some ((), σ)
theorem tX5_take_93 {r : Unit} {σ' : Sg} (C : Cx E p s m args meth c RX5 cX5_take 5) (hr : meth.sig.returnType = none) {σ : Sg} (h : DX5_take_93  σ = some (r, σ')) : Y E p l e (rmA 2 0 0) s m args below meth c none σ' 0 0 5 0 0 σ 93 [none, none, none, none, none] [] := by
  unfold DX5_take_93 at h
  cases h
  exact x_vret C hr dX5_take_93
def DX5_take_46 : Nat → Nat → Nat → Int32 → Int32 → Sg → Option (Unit × Sg)
  | 0, _, _, _, _, _ => none
  | n + 1, l0, l2, l3, l4, σ =>
    chk (ckO σ 4 l0) <|
    if (gI σ l0 2) ≤ l4 then
      DX5_take_93 σ
    else
      chk (ckO σ 4 l0) <|
      chk (ckV (gR σ l0 6)) <|
      chk (ckO σ 1 l2) <|
      chk (ckV (gR σ l2 3)) <|
      chk (ckG σ (gR σ l2 3) l3) <|
      chk (ckR σ (gR σ l2 3) l3.toNatClampNeg l4) <|
      chk (ckI σ (gR σ l0 6) l4) <|
      wlet (wI σ (gR σ l0 6) l4.toNatClampNeg (aG σ (gR σ l2 3) l3.toNatClampNeg l4.toNatClampNeg)) fun σ1 =>
      chk (ckO σ1 4 l0) <|
      chk (ckV (gR σ1 l0 12)) <|
      chk (ckO σ1 1 l2) <|
      chk (ckV (gR σ1 l2 4)) <|
      chk (ckG σ1 (gR σ1 l2 4) l3) <|
      chk (ckR σ1 (gR σ1 l2 4) l3.toNatClampNeg l4) <|
      chk (ckI σ1 (gR σ1 l0 12) l4) <|
      wlet (wI σ1 (gR σ1 l0 12) l4.toNatClampNeg (aG σ1 (gR σ1 l2 4) l3.toNatClampNeg l4.toNatClampNeg)) fun σ2 =>
      DX5_take_46 n l0 l2 l3 (l4 + (1 : Int32)) σ2
theorem tX5_take_46 {r : Unit} {σ' : Sg} (C : Cx E p s m args meth c RX5 cX5_take 5) (hr : meth.sig.returnType = none) : ∀ (n : Nat) (l0 : Nat) (l2 : Nat) (l3 : Int32) (l4 : Int32) (σ : Sg) (h : DX5_take_46 n l0 l2 l3 l4 σ = some (r, σ')), Y E p l e (rmA 2 0 0) s m args below meth c none σ' 0 0 5 0 0 σ 46 [some (.ref (ad E l0)), none, some (.ref (ad E l2)), some (.int l3), some (.int l4)] [] := by
  intro n
  induction n with
  | zero => intro l0 l2 l3 l4 σ h; cases h
  | succ n ih =>
    intro l0 l2 l3 l4 σ h
    unfold DX5_take_46 at h
    refine x_iload (pc := 46) C dX5_take_46 rfl ?_
    refine x_aload_n (pc := 48) C dX5_take_48 rfl rfl ?_
    obtain ⟨k, h⟩ := chk_s h
    refine x_getI (pc := 49) C fX5_15 rfl k dX5_take_49 ?_
    refine x_icmp_ge (pc := 52) (tgt := 93) C dX5_take_52 (by decide) (fun q => ?_) (fun q => ?_)
    · rw [if_pos q] at h
      exact x_sub (tX5_take_93 C hr h) (xLe_n (xLe_n (xLe_n (xLe_n (xLe_n xLe_0)))))
    · rw [if_neg q] at h
      refine x_aload_n (pc := 55) C dX5_take_55 rfl rfl ?_
      obtain ⟨k, h⟩ := chk_s h
      have k2 := k
      obtain ⟨k, h⟩ := chk_s h
      refine x_getR (pc := 56) C fX5_27 rfl k2 k dX5_take_56 ?_
      refine x_iload (pc := 59) C dX5_take_59 rfl ?_
      refine x_aload_n (pc := 61) C dX5_take_61 rfl rfl ?_
      obtain ⟨k, h⟩ := chk_s h
      have k2 := k
      obtain ⟨k, h⟩ := chk_s h
      refine x_getR (pc := 62) C fX5_84 rfl k2 k dX5_take_62 ?_
      refine x_iload_n (pc := 65) C dX5_take_65 rfl rfl ?_
      obtain ⟨k, h⟩ := chk_s h
      refine x_gald (pc := 66) C k dX5_take_66 ?_
      refine x_iload (pc := 67) C dX5_take_67 rfl ?_
      obtain ⟨k, h⟩ := chk_s h
      refine x_rald (pc := 69) C k dX5_take_69 ?_
      obtain ⟨k, h⟩ := chk_s h
      obtain ⟨σ1, e1, h⟩ := wlet_s h
      refine x_iast (pc := 70) C k dX5_take_70 (x_eq e1 ?_)
      refine x_aload_n (pc := 71) C dX5_take_71 rfl rfl ?_
      obtain ⟨k, h⟩ := chk_s h
      have k2 := k
      obtain ⟨k, h⟩ := chk_s h
      refine x_getR (pc := 72) C fX5_47 rfl k2 k dX5_take_72 ?_
      refine x_iload (pc := 75) C dX5_take_75 rfl ?_
      refine x_aload_n (pc := 77) C dX5_take_77 rfl rfl ?_
      obtain ⟨k, h⟩ := chk_s h
      have k2 := k
      obtain ⟨k, h⟩ := chk_s h
      refine x_getR (pc := 78) C fX5_87 rfl k2 k dX5_take_78 ?_
      refine x_iload_n (pc := 81) C dX5_take_81 rfl rfl ?_
      obtain ⟨k, h⟩ := chk_s h
      refine x_gald (pc := 82) C k dX5_take_82 ?_
      refine x_iload (pc := 83) C dX5_take_83 rfl ?_
      obtain ⟨k, h⟩ := chk_s h
      refine x_rald (pc := 85) C k dX5_take_85 ?_
      obtain ⟨k, h⟩ := chk_s h
      obtain ⟨σ2, e1, h⟩ := wlet_s h
      refine x_iast (pc := 86) C k dX5_take_86 (x_eq e1 ?_)
      refine x_iinc (v := 1) (M := [some _, none, some _, some _, some _]) (pc := 87) C dX5_take_87 rfl (by decide) (by decide) rfl ?_
      refine x_goto (tgt := 46) (pc := 90) C dX5_take_90 (by decide) ?_
      exact x_sub (ih _ _ _ _ _ h) (xLe_s (xLe_n (xLe_s (xLe_s (xLe_s xLe_0)))))
def DX5_take (l0 : Nat) (l1 : Nat) (l2 : Nat) (l3 : Int32) (σ : Sg) : Option (Unit × Sg) :=
  chk (ckO σ 4 l0) <|
  chk (ckV l1) <|
  wlet (pR σ l0 0 l1) fun σ1 =>
  chk (ckO σ1 4 l0) <|
  wlet (pI σ1 l0 1 l3) fun σ2 =>
  chk (ckO σ2 0 l1) <|
  bnd (DX1_couponsOf l1 l3 σ2) fun v3 σ4 =>
  chk (ckO σ4 4 l0) <|
  wlet (pI σ4 l0 2 v3) fun σ5 =>
  chk (ckO σ5 1 l2) <|
  chk (ckV (gR σ5 l2 1)) <|
  chk (ckI σ5 (gR σ5 l2 1) l3) <|
  chk (ckO σ5 4 l0) <|
  wlet (pI σ5 l0 3 (aI σ5 (gR σ5 l2 1) l3.toNatClampNeg)) fun σ6 =>
  chk (ckO σ6 0 l1) <|
  bnd (DX1_howOf l1 l3 σ6) fun v7 σ8 =>
  chk (ckO σ8 4 l0) <|
  wlet (pI σ8 l0 4 v7) fun σ9 =>
  chk (ckO σ9 4 l0) <|
  wlet (pI σ9 l0 5 (-1 : Int32)) fun σ10 =>
  DX5_take_46 FU l0 l2 l3 (0 : Int32) σ10
theorem mX5_take (E : Ev) (l : Launch) {l0 : Nat} {l1 : Nat} {l2 : Nat} {l3 : Int32} {σ : Sg} {r : Unit} {σ' : Sg} (h : DX5_take l0 l1 l2 l3 σ = some (r, σ')) : Mt E l yX5_take cX5_take 5 none 2 0 0 [.ref (ad E l0), .ref (ad E l1), .ref (ad E l2), .int l3] σ none σ' := by
  refine Mt.ofX (by decide) (Nat.le_of_ble_eq_true rfl) (L0 := [some (.ref (ad E l0)), some (.ref (ad E l1)), some (.ref (ad E l2)), some (.int l3), none]) (xEntN_ok [.ref (ad E l0), .ref (ad E l1), .ref (ad E l2), .int l3] 5) (fun p e s m args below meth c C hr hn => ?_)
  unfold DX5_take at h
  refine x_aload_n (pc := 0) C dX5_take_0 rfl rfl ?_
  refine x_aload_n (pc := 1) C dX5_take_1 rfl rfl ?_
  obtain ⟨k, h⟩ := chk_s h
  have k2 := k
  obtain ⟨k, h⟩ := chk_s h
  obtain ⟨σ1, e1, h⟩ := wlet_s h
  refine x_putR (pc := 2) C pX5_67 (Or.inl ⟨_, rfl⟩) k2 k dX5_take_2 (x_eq e1 ?_)
  refine x_aload_n (pc := 5) C dX5_take_5 rfl rfl ?_
  refine x_iload_n (pc := 6) C dX5_take_6 rfl rfl ?_
  obtain ⟨k, h⟩ := chk_s h
  obtain ⟨σ2, e1, h⟩ := wlet_s h
  refine x_putI (pc := 7) C pX5_9 rfl k dX5_take_7 (x_eq e1 ?_)
  refine x_aload_n (pc := 10) C dX5_take_10 rfl rfl ?_
  refine x_aload_n (pc := 11) C dX5_take_11 rfl rfl ?_
  refine x_iload_n (pc := 12) C dX5_take_12 rfl rfl ?_
  obtain ⟨k, h⟩ := chk_s h
  have k2 := k
  obtain ⟨v3, σ4, k, h⟩ := bnd_s h
  refine x_callV1 (pc := 13) C (mX1_couponsOf E l k) cl0 k2 cX5_71 nX1_couponsOf sX1_couponsOf rfl rfl (Nat.le_of_ble_eq_true rfl) ⟨Nat.le_of_ble_eq_true rfl, Nat.le_of_ble_eq_true rfl, Nat.le_of_ble_eq_true rfl, Nat.le_of_ble_eq_true rfl⟩ dX5_take_13 ?_
  obtain ⟨k, h⟩ := chk_s h
  obtain ⟨σ5, e1, h⟩ := wlet_s h
  refine x_putI (pc := 16) C pX5_15 rfl k dX5_take_16 (x_eq e1 ?_)
  refine x_aload_n (pc := 19) C dX5_take_19 rfl rfl ?_
  refine x_aload_n (pc := 20) C dX5_take_20 rfl rfl ?_
  obtain ⟨k, h⟩ := chk_s h
  have k2 := k
  obtain ⟨k, h⟩ := chk_s h
  refine x_getR (pc := 21) C fX5_77 rfl k2 k dX5_take_21 ?_
  refine x_iload_n (pc := 24) C dX5_take_24 rfl rfl ?_
  obtain ⟨k, h⟩ := chk_s h
  refine x_iald (pc := 25) C k dX5_take_25 ?_
  obtain ⟨k, h⟩ := chk_s h
  obtain ⟨σ6, e1, h⟩ := wlet_s h
  refine x_putI (pc := 26) C pX5_18 rfl k dX5_take_26 (x_eq e1 ?_)
  refine x_aload_n (pc := 29) C dX5_take_29 rfl rfl ?_
  refine x_aload_n (pc := 30) C dX5_take_30 rfl rfl ?_
  refine x_iload_n (pc := 31) C dX5_take_31 rfl rfl ?_
  obtain ⟨k, h⟩ := chk_s h
  have k2 := k
  obtain ⟨v7, σ8, k, h⟩ := bnd_s h
  refine x_callV1 (pc := 32) C (mX1_howOf E l k) cl0 k2 cX5_81 nX1_howOf sX1_howOf rfl rfl (Nat.le_of_ble_eq_true rfl) ⟨Nat.le_of_ble_eq_true rfl, Nat.le_of_ble_eq_true rfl, Nat.le_of_ble_eq_true rfl, Nat.le_of_ble_eq_true rfl⟩ dX5_take_32 ?_
  obtain ⟨k, h⟩ := chk_s h
  obtain ⟨σ9, e1, h⟩ := wlet_s h
  refine x_putI (pc := 35) C pX5_21 rfl k dX5_take_35 (x_eq e1 ?_)
  refine x_aload_n (pc := 38) C dX5_take_38 rfl rfl ?_
  refine x_iconst (v := -1) (pc := 39) C dX5_take_39 (by decide) ?_
  obtain ⟨k, h⟩ := chk_s h
  obtain ⟨σ10, e1, h⟩ := wlet_s h
  refine x_putI (pc := 40) C pX5_24 rfl k dX5_take_40 (x_eq e1 ?_)
  refine x_iconst (v := 0) (pc := 43) C dX5_take_43 (by decide) ?_
  refine x_istore (M := [some _, some _, some _, some _, some _]) (pc := 44) C dX5_take_44 (by decide) rfl ?_
  exact x_sub (tX5_take_46 C hr FU _ _ _ _ _ h) (xLe_s (xLe_n (xLe_s (xLe_s (xLe_s xLe_0)))))
def DX5_forgetProvisosAndFlown (l0 : Nat) (σ : Sg) : Option (Unit × Sg) :=
  chk (ckO σ 4 l0) <|
  wlet (pI σ l0 5 (-2 : Int32)) fun σ1 =>
  chk (ckO σ1 4 l0) <|
  wlet (pI σ1 l0 3 (0 : Int32)) fun σ2 =>
  some ((), σ2)
theorem mX5_forgetProvisosAndFlown (E : Ev) (l : Launch) {l0 : Nat} {σ : Sg} {r : Unit} {σ' : Sg} (h : DX5_forgetProvisosAndFlown l0 σ = some (r, σ')) : Mt E l yX5_forgetProvisosAndFlown cX5_forgetProvisosAndFlown 1 none 1 0 0 [.ref (ad E l0)] σ none σ' := by
  refine Mt.ofX (by decide) (Nat.le_of_ble_eq_true rfl) (L0 := [some (.ref (ad E l0))]) (xEntN_ok [.ref (ad E l0)] 1) (fun p e s m args below meth c C hr hn => ?_)
  unfold DX5_forgetProvisosAndFlown at h
  refine x_aload_n (pc := 0) C dX5_forgetProvisosAndFlown_0 rfl rfl ?_
  refine x_bipush (v := -2) (pc := 1) C dX5_forgetProvisosAndFlown_1 (by decide) ?_
  obtain ⟨k, h⟩ := chk_s h
  obtain ⟨σ1, e1, h⟩ := wlet_s h
  refine x_putI (pc := 3) C pX5_24 rfl k dX5_forgetProvisosAndFlown_3 (x_eq e1 ?_)
  refine x_aload_n (pc := 6) C dX5_forgetProvisosAndFlown_6 rfl rfl ?_
  refine x_iconst (v := 0) (pc := 7) C dX5_forgetProvisosAndFlown_7 (by decide) ?_
  obtain ⟨k, h⟩ := chk_s h
  obtain ⟨σ2, e1, h⟩ := wlet_s h
  refine x_putI (pc := 8) C pX5_18 rfl k dX5_forgetProvisosAndFlown_8 (x_eq e1 ?_)
  cases h
  exact x_vret C hr dX5_forgetProvisosAndFlown_11
def DX5_isOnAnother_25 (σ : Sg) : Option (Int32 × Sg) :=
  chk (ck01 (1 : Int32)) <|
  some ((1 : Int32), σ)
theorem tX5_isOnAnother_25 {r : Int32} {σ' : Sg} (C : Cx E p s m args meth c RX5 cX5_isOnAnother 4) (hr : meth.sig.returnType = (some .boolean)) {σ : Sg} (h : DX5_isOnAnother_25  σ = some (r, σ')) : Y E p l e (rmA 1 0 0) s m args below meth c (some (.int r)) σ' 0 0 4 0 0 σ 25 [none, none, none, none] [] := by
  unfold DX5_isOnAnother_25 at h
  refine x_iconst (v := 1) (pc := 25) C dX5_isOnAnother_25 (by decide) ?_
  obtain ⟨kz, h⟩ := chk_s h
  cases h
  exact x_zret C hr (nar_01 kz) dX5_isOnAnother_26
def DX5_isOnAnother_27 (K2 : Nat → Int32 → Int32 → Int32 → Sg → Option (Int32 × Sg)) (l0 : Nat) (l1 : Int32) (l2 : Int32) (l3 : Int32) (σ : Sg) : Option (Int32 × Sg) :=
  K2 l0 l1 l2 (l3 + (1 : Int32)) σ
theorem tX5_isOnAnother_27 {r : Int32} {σ' : Sg} (C : Cx E p s m args meth c RX5 cX5_isOnAnother 4) (hr : meth.sig.returnType = (some .boolean)) {K2 : Nat → Int32 → Int32 → Int32 → Sg → Option (Int32 × Sg)} (hK2 : ∀ (l0 : Nat) (l1 : Int32) (l2 : Int32) (l3 : Int32) (σ : Sg), K2 l0 l1 l2 l3 σ = some (r, σ') → Y E p l e (rmA 1 0 0) s m args below meth c (some (.int r)) σ' 0 0 4 0 0 σ 2 [some (.ref (ad E l0)), some (.int l1), some (.int l2), some (.int l3)] []) {l0 : Nat} {l1 : Int32} {l2 : Int32} {l3 : Int32} {σ : Sg} (h : DX5_isOnAnother_27 K2 l0 l1 l2 l3 σ = some (r, σ')) : Y E p l e (rmA 1 0 0) s m args below meth c (some (.int r)) σ' 0 0 4 0 0 σ 27 [some (.ref (ad E l0)), some (.int l1), some (.int l2), some (.int l3)] [] := by
  unfold DX5_isOnAnother_27 at h
  refine x_iinc (v := 1) (M := [some _, some _, some _, some _]) (pc := 27) C dX5_isOnAnother_27 rfl (by decide) (by decide) rfl ?_
  refine x_goto (tgt := 2) (pc := 30) C dX5_isOnAnother_30 (by decide) ?_
  exact x_sub (hK2 _ _ _ _ _ h) (xLe_s (xLe_s (xLe_s (xLe_s xLe_0))))
def DX5_isOnAnother_33 (σ : Sg) : Option (Int32 × Sg) :=
  chk (ck01 (0 : Int32)) <|
  some ((0 : Int32), σ)
theorem tX5_isOnAnother_33 {r : Int32} {σ' : Sg} (C : Cx E p s m args meth c RX5 cX5_isOnAnother 4) (hr : meth.sig.returnType = (some .boolean)) {σ : Sg} (h : DX5_isOnAnother_33  σ = some (r, σ')) : Y E p l e (rmA 1 0 0) s m args below meth c (some (.int r)) σ' 0 0 4 0 0 σ 33 [none, none, none, none] [] := by
  unfold DX5_isOnAnother_33 at h
  refine x_iconst (v := 0) (pc := 33) C dX5_isOnAnother_33 (by decide) ?_
  obtain ⟨kz, h⟩ := chk_s h
  cases h
  exact x_zret C hr (nar_01 kz) dX5_isOnAnother_34
def DX5_isOnAnother_2 : Nat → Nat → Int32 → Int32 → Int32 → Sg → Option (Int32 × Sg)
  | 0, _, _, _, _, _ => none
  | n + 1, l0, l1, l2, l3, σ =>
    chk (ckO σ 4 l0) <|
    if (gI σ l0 2) ≤ l3 then
      DX5_isOnAnother_33 σ
    else
      if l3 = l2 then
        DX5_isOnAnother_27 (DX5_isOnAnother_2 n) l0 l1 l2 l3 σ
      else
        chk (ckO σ 4 l0) <|
        chk (ckV (gR σ l0 6)) <|
        chk (ckI σ (gR σ l0 6) l3) <|
        if (aI σ (gR σ l0 6) l3.toNatClampNeg) = l1 then
          DX5_isOnAnother_25 σ
        else
          DX5_isOnAnother_27 (DX5_isOnAnother_2 n) l0 l1 l2 l3 σ
theorem tX5_isOnAnother_2 {r : Int32} {σ' : Sg} (C : Cx E p s m args meth c RX5 cX5_isOnAnother 4) (hr : meth.sig.returnType = (some .boolean)) : ∀ (n : Nat) (l0 : Nat) (l1 : Int32) (l2 : Int32) (l3 : Int32) (σ : Sg) (h : DX5_isOnAnother_2 n l0 l1 l2 l3 σ = some (r, σ')), Y E p l e (rmA 1 0 0) s m args below meth c (some (.int r)) σ' 0 0 4 0 0 σ 2 [some (.ref (ad E l0)), some (.int l1), some (.int l2), some (.int l3)] [] := by
  intro n
  induction n with
  | zero => intro l0 l1 l2 l3 σ h; cases h
  | succ n ih =>
    intro l0 l1 l2 l3 σ h
    unfold DX5_isOnAnother_2 at h
    refine x_iload_n (pc := 2) C dX5_isOnAnother_2 rfl rfl ?_
    refine x_aload_n (pc := 3) C dX5_isOnAnother_3 rfl rfl ?_
    obtain ⟨k, h⟩ := chk_s h
    refine x_getI (pc := 4) C fX5_15 rfl k dX5_isOnAnother_4 ?_
    refine x_icmp_ge (pc := 7) (tgt := 33) C dX5_isOnAnother_7 (by decide) (fun q => ?_) (fun q => ?_)
    · rw [if_pos q] at h
      exact x_sub (tX5_isOnAnother_33 C hr h) (xLe_n (xLe_n (xLe_n (xLe_n xLe_0))))
    · rw [if_neg q] at h
      refine x_iload_n (pc := 10) C dX5_isOnAnother_10 rfl rfl ?_
      refine x_iload_n (pc := 11) C dX5_isOnAnother_11 rfl rfl ?_
      refine x_icmp_eq (pc := 12) (tgt := 27) C dX5_isOnAnother_12 (by decide) (fun q => ?_) (fun q => ?_)
      · rw [if_pos q] at h
        exact x_sub (tX5_isOnAnother_27 C hr ih h) (xLe_s (xLe_s (xLe_s (xLe_s xLe_0))))
      · rw [if_neg q] at h
        refine x_aload_n (pc := 15) C dX5_isOnAnother_15 rfl rfl ?_
        obtain ⟨k, h⟩ := chk_s h
        have k2 := k
        obtain ⟨k, h⟩ := chk_s h
        refine x_getR (pc := 16) C fX5_27 rfl k2 k dX5_isOnAnother_16 ?_
        refine x_iload_n (pc := 19) C dX5_isOnAnother_19 rfl rfl ?_
        obtain ⟨k, h⟩ := chk_s h
        refine x_iald (pc := 20) C k dX5_isOnAnother_20 ?_
        refine x_iload_n (pc := 21) C dX5_isOnAnother_21 rfl rfl ?_
        refine x_icmp_ne (pc := 22) (tgt := 27) C dX5_isOnAnother_22 (by decide) (fun q => ?_) (fun q => ?_)
        · rw [if_pos q] at h
          exact x_sub (tX5_isOnAnother_25 C hr h) (xLe_n (xLe_n (xLe_n (xLe_n xLe_0))))
        · rw [if_neg q] at h
          exact x_sub (tX5_isOnAnother_27 C hr ih h) (xLe_s (xLe_s (xLe_s (xLe_s xLe_0))))
def DX5_isOnAnother (l0 : Nat) (l1 : Int32) (l2 : Int32) (σ : Sg) : Option (Int32 × Sg) :=
  DX5_isOnAnother_2 FU l0 l1 l2 (0 : Int32) σ
theorem mX5_isOnAnother (E : Ev) (l : Launch) {l0 : Nat} {l1 : Int32} {l2 : Int32} {σ : Sg} {r : Int32} {σ' : Sg} (h : DX5_isOnAnother l0 l1 l2 σ = some (r, σ')) : Mt E l yX5_isOnAnother cX5_isOnAnother 4 (some .boolean) 1 0 0 [.ref (ad E l0), .int l1, .int l2] σ (some (.int r)) σ' := by
  refine Mt.ofX (by decide) (Nat.le_of_ble_eq_true rfl) (L0 := [some (.ref (ad E l0)), some (.int l1), some (.int l2), none]) (xEntN_ok [.ref (ad E l0), .int l1, .int l2] 4) (fun p e s m args below meth c C hr hn => ?_)
  unfold DX5_isOnAnother at h
  refine x_iconst (v := 0) (pc := 0) C dX5_isOnAnother_0 (by decide) ?_
  refine x_istore_n (M := [some _, some _, some _, some _]) (pc := 1) C dX5_isOnAnother_1 rfl (by decide) rfl ?_
  exact x_sub (tX5_isOnAnother_2 C hr FU _ _ _ _ _ h) (xLe_s (xLe_s (xLe_s (xLe_s xLe_0))))
def DX5_canHold_92 (s0 : Int32) (σ : Sg) : Option (Int32 × Sg) :=
  chk (ck01 s0) <|
  some (s0, σ)
theorem tX5_canHold_92 {r : Int32} {σ' : Sg} (C : Cx E p s m args meth c RX5 cX5_canHold 5) (hr : meth.sig.returnType = (some .boolean)) {s0 : Int32} {σ : Sg} (h : DX5_canHold_92 s0 σ = some (r, σ')) : Y E p l e (rmA 2 0 0) s m args below meth c (some (.int r)) σ' 0 0 5 0 0 σ 92 [none, none, none, none, none] [.int s0] := by
  unfold DX5_canHold_92 at h
  obtain ⟨kz, h⟩ := chk_s h
  cases h
  exact x_zret C hr (nar_01 kz) dX5_canHold_92
def DX5_canHold_87 (σ : Sg) : Option (Int32 × Sg) :=
  DX5_canHold_92 (1 : Int32) σ
theorem tX5_canHold_87 {r : Int32} {σ' : Sg} (C : Cx E p s m args meth c RX5 cX5_canHold 5) (hr : meth.sig.returnType = (some .boolean)) {σ : Sg} (h : DX5_canHold_87  σ = some (r, σ')) : Y E p l e (rmA 2 0 0) s m args below meth c (some (.int r)) σ' 0 0 5 0 0 σ 87 [none, none, none, none, none] [] := by
  unfold DX5_canHold_87 at h
  refine x_iconst (v := 1) (pc := 87) C dX5_canHold_87 (by decide) ?_
  refine x_goto (tgt := 92) (pc := 88) C dX5_canHold_88 (by decide) ?_
  exact x_sub (tX5_canHold_92 C hr h) (xLe_n (xLe_n (xLe_n (xLe_n (xLe_n xLe_0)))))
def DX5_canHold_91 (σ : Sg) : Option (Int32 × Sg) :=
  DX5_canHold_92 (0 : Int32) σ
theorem tX5_canHold_91 {r : Int32} {σ' : Sg} (C : Cx E p s m args meth c RX5 cX5_canHold 5) (hr : meth.sig.returnType = (some .boolean)) {σ : Sg} (h : DX5_canHold_91  σ = some (r, σ')) : Y E p l e (rmA 2 0 0) s m args below meth c (some (.int r)) σ' 0 0 5 0 0 σ 91 [none, none, none, none, none] [] := by
  unfold DX5_canHold_91 at h
  refine x_iconst (v := 0) (pc := 91) C dX5_canHold_91 (by decide) ?_
  exact x_sub (tX5_canHold_92 C hr h) (xLe_n (xLe_n (xLe_n (xLe_n (xLe_n xLe_0)))))
def DX5_canHold_68 (l0 : Nat) (g1 : Nat) (i1 : Nat) (l2 : Int32) (σ : Sg) : Option (Int32 × Sg) :=
  chk (ckR σ g1 i1 (5 : Int32)) <|
  if (aG σ g1 i1 (5 : Int32).toNatClampNeg) = (-2 : Int32) then
    DX5_canHold_87 σ
  else
    chk (ckR σ g1 i1 (5 : Int32)) <|
    chk (ckO σ 4 l0) <|
    bnd (DX5_isOnAnother l0 (aG σ g1 i1 (5 : Int32).toNatClampNeg) l2 σ) fun v1 σ2 =>
    if v1 = 0 then
      DX5_canHold_91 σ2
    else
      DX5_canHold_87 σ2
theorem tX5_canHold_68 {r : Int32} {σ' : Sg} (C : Cx E p s m args meth c RX5 cX5_canHold 5) (hr : meth.sig.returnType = (some .boolean)) {l0 : Nat} {g1 : Nat} {i1 : Nat} {l2 : Int32} {σ : Sg} (h : DX5_canHold_68 l0 g1 i1 l2 σ = some (r, σ')) : Y E p l e (rmA 2 0 0) s m args below meth c (some (.int r)) σ' 0 0 5 0 0 σ 68 [some (.ref (ad E l0)), some (.ref (rw1 E g1 i1)), some (.int l2), none, none] [] := by
  unfold DX5_canHold_68 at h
  refine x_aload_n (pc := 68) C dX5_canHold_68 rfl rfl ?_
  refine x_iconst (v := 5) (pc := 69) C dX5_canHold_69 (by decide) ?_
  obtain ⟨k, h⟩ := chk_s h
  refine x_rald (pc := 70) C k dX5_canHold_70 ?_
  refine x_bipush (v := -2) (pc := 71) C dX5_canHold_71 (by decide) ?_
  refine x_icmp_eq (pc := 73) (tgt := 87) C dX5_canHold_73 (by decide) (fun q => ?_) (fun q => ?_)
  · rw [if_pos q] at h
    exact x_sub (tX5_canHold_87 C hr h) (xLe_n (xLe_n (xLe_n (xLe_n (xLe_n xLe_0)))))
  · rw [if_neg q] at h
    refine x_aload_n (pc := 76) C dX5_canHold_76 rfl rfl ?_
    refine x_aload_n (pc := 77) C dX5_canHold_77 rfl rfl ?_
    refine x_iconst (v := 5) (pc := 78) C dX5_canHold_78 (by decide) ?_
    obtain ⟨k, h⟩ := chk_s h
    refine x_rald (pc := 79) C k dX5_canHold_79 ?_
    refine x_iload_n (pc := 80) C dX5_canHold_80 rfl rfl ?_
    obtain ⟨k, h⟩ := chk_s h
    have k2 := k
    obtain ⟨v1, σ2, k, h⟩ := bnd_s h
    refine x_callV1 (pc := 81) C (mX5_isOnAnother E l k) cl4 k2 cX5_139 nX5_isOnAnother sX5_isOnAnother rfl rfl (Nat.le_of_ble_eq_true rfl) ⟨Nat.le_of_ble_eq_true rfl, Nat.le_of_ble_eq_true rfl, Nat.le_of_ble_eq_true rfl, Nat.le_of_ble_eq_true rfl⟩ dX5_canHold_81 ?_
    refine x_if_eq (pc := 84) (tgt := 91) C dX5_canHold_84 (by decide) (fun q => ?_) (fun q => ?_)
    · rw [if_pos q] at h
      exact x_sub (tX5_canHold_91 C hr h) (xLe_n (xLe_n (xLe_n (xLe_n (xLe_n xLe_0)))))
    · rw [if_neg q] at h
      exact x_sub (tX5_canHold_87 C hr h) (xLe_n (xLe_n (xLe_n (xLe_n (xLe_n xLe_0)))))
def DX5_canHold (l0 : Nat) (g1 : Nat) (i1 : Nat) (l2 : Int32) (σ : Sg) : Option (Int32 × Sg) :=
  chk (ckO σ 4 l0) <|
  chk (ckV (gR σ l0 0)) <|
  chk (ckO σ 0 (gR σ l0 0)) <|
  chk (ckV (gR σ (gR σ l0 0) 19)) <|
  chk (ckO σ 4 l0) <|
  chk (ckG σ (gR σ (gR σ l0 0) 19) (gI σ l0 1)) <|
  chk (ckR σ (gR σ (gR σ l0 0) 19) ((gI σ l0 1).toNatClampNeg) l2) <|
  chk (ckO σ 4 l0) <|
  chk (ckV (gR σ l0 0)) <|
  chk (ckO σ 0 (gR σ l0 0)) <|
  chk (ckV (gR σ (gR σ l0 0) 19)) <|
  chk (ckO σ 4 l0) <|
  chk (ckG σ (gR σ (gR σ l0 0) 19) (gI σ l0 1)) <|
  chk (ckR σ (gR σ (gR σ l0 0) 19) ((gI σ l0 1).toNatClampNeg) (l2 + (1 : Int32))) <|
  chk (ckR σ g1 i1 (0 : Int32)) <|
  chk (ckO σ 4 l0) <|
  chk (ckV (gR σ l0 6)) <|
  chk (ckI σ (gR σ l0 6) l2) <|
  if (aG σ g1 i1 (0 : Int32).toNatClampNeg) = (aI σ (gR σ l0 6) l2.toNatClampNeg) then
    chk (ckR σ g1 i1 (1 : Int32)) <|
    if (aG σ g1 i1 (1 : Int32).toNatClampNeg) = (-2 : Int32) then
      DX5_canHold_68 l0 g1 i1 l2 σ
    else
      chk (ckR σ g1 i1 (1 : Int32)) <|
      chk (ckR σ g1 i1 (2 : Int32)) <|
      bnd (DX1_isPair (aG σ g1 i1 (1 : Int32).toNatClampNeg) (aG σ g1 i1 (2 : Int32).toNatClampNeg) (aG σ (gR σ (gR σ l0 0) 19) ((gI σ l0 1).toNatClampNeg) l2.toNatClampNeg) (aG σ (gR σ (gR σ l0 0) 19) ((gI σ l0 1).toNatClampNeg) (l2 + (1 : Int32)).toNatClampNeg) σ) fun v1 σ2 =>
      if v1 = 0 then
        DX5_canHold_91 σ2
      else
        DX5_canHold_68 l0 g1 i1 l2 σ2
  else
    DX5_canHold_91 σ
theorem mX5_canHold (E : Ev) (l : Launch) {l0 : Nat} {g1 : Nat} {i1 : Nat} {l2 : Int32} {σ : Sg} {r : Int32} {σ' : Sg} (h : DX5_canHold l0 g1 i1 l2 σ = some (r, σ')) : Mt E l yX5_canHold cX5_canHold 5 (some .boolean) 2 0 0 [.ref (ad E l0), .ref (rw1 E g1 i1), .int l2] σ (some (.int r)) σ' := by
  refine Mt.ofX (by decide) (Nat.le_of_ble_eq_true rfl) (L0 := [some (.ref (ad E l0)), some (.ref (rw1 E g1 i1)), some (.int l2), none, none]) (xEntN_ok [.ref (ad E l0), .ref (rw1 E g1 i1), .int l2] 5) (fun p e s m args below meth c C hr hn => ?_)
  unfold DX5_canHold at h
  refine x_aload_n (pc := 0) C dX5_canHold_0 rfl rfl ?_
  obtain ⟨k, h⟩ := chk_s h
  have k2 := k
  obtain ⟨k, h⟩ := chk_s h
  refine x_getR (pc := 1) C fX5_67 rfl k2 k dX5_canHold_1 ?_
  obtain ⟨k, h⟩ := chk_s h
  have k2 := k
  obtain ⟨k, h⟩ := chk_s h
  refine x_getR (pc := 4) C fX5_132 rfl k2 k dX5_canHold_4 ?_
  refine x_aload_n (pc := 7) C dX5_canHold_7 rfl rfl ?_
  obtain ⟨k, h⟩ := chk_s h
  refine x_getI (pc := 8) C fX5_9 rfl k dX5_canHold_8 ?_
  obtain ⟨k, h⟩ := chk_s h
  refine x_gald (pc := 11) C k dX5_canHold_11 ?_
  refine x_iload_n (pc := 12) C dX5_canHold_12 rfl rfl ?_
  obtain ⟨k, h⟩ := chk_s h
  refine x_rald (pc := 13) C k dX5_canHold_13 ?_
  refine x_istore_n (M := [some _, some _, some _, some _, none]) (pc := 14) C dX5_canHold_14 rfl (by decide) rfl ?_
  refine x_aload_n (pc := 15) C dX5_canHold_15 rfl rfl ?_
  obtain ⟨k, h⟩ := chk_s h
  have k2 := k
  obtain ⟨k, h⟩ := chk_s h
  refine x_getR (pc := 16) C fX5_67 rfl k2 k dX5_canHold_16 ?_
  obtain ⟨k, h⟩ := chk_s h
  have k2 := k
  obtain ⟨k, h⟩ := chk_s h
  refine x_getR (pc := 19) C fX5_132 rfl k2 k dX5_canHold_19 ?_
  refine x_aload_n (pc := 22) C dX5_canHold_22 rfl rfl ?_
  obtain ⟨k, h⟩ := chk_s h
  refine x_getI (pc := 23) C fX5_9 rfl k dX5_canHold_23 ?_
  obtain ⟨k, h⟩ := chk_s h
  refine x_gald (pc := 26) C k dX5_canHold_26 ?_
  refine x_iload_n (pc := 27) C dX5_canHold_27 rfl rfl ?_
  refine x_iconst (v := 1) (pc := 28) C dX5_canHold_28 (by decide) ?_
  refine x_iadd (pc := 29) C dX5_canHold_29 ?_
  obtain ⟨k, h⟩ := chk_s h
  refine x_rald (pc := 30) C k dX5_canHold_30 ?_
  refine x_istore (M := [some _, some _, some _, some _, some _]) (pc := 31) C dX5_canHold_31 (by decide) rfl ?_
  refine x_aload_n (pc := 33) C dX5_canHold_33 rfl rfl ?_
  refine x_iconst (v := 0) (pc := 34) C dX5_canHold_34 (by decide) ?_
  obtain ⟨k, h⟩ := chk_s h
  refine x_rald (pc := 35) C k dX5_canHold_35 ?_
  refine x_aload_n (pc := 36) C dX5_canHold_36 rfl rfl ?_
  obtain ⟨k, h⟩ := chk_s h
  have k2 := k
  obtain ⟨k, h⟩ := chk_s h
  refine x_getR (pc := 37) C fX5_27 rfl k2 k dX5_canHold_37 ?_
  refine x_iload_n (pc := 40) C dX5_canHold_40 rfl rfl ?_
  obtain ⟨k, h⟩ := chk_s h
  refine x_iald (pc := 41) C k dX5_canHold_41 ?_
  refine x_icmp_ne (pc := 42) (tgt := 91) C dX5_canHold_42 (by decide) (fun q => ?_) (fun q => ?_)
  · rw [if_pos q] at h
    refine x_aload_n (pc := 45) C dX5_canHold_45 rfl rfl ?_
    refine x_iconst (v := 1) (pc := 46) C dX5_canHold_46 (by decide) ?_
    obtain ⟨k, h⟩ := chk_s h
    refine x_rald (pc := 47) C k dX5_canHold_47 ?_
    refine x_bipush (v := -2) (pc := 48) C dX5_canHold_48 (by decide) ?_
    refine x_icmp_eq (pc := 50) (tgt := 68) C dX5_canHold_50 (by decide) (fun q => ?_) (fun q => ?_)
    · rw [if_pos q] at h
      exact x_sub (tX5_canHold_68 C hr h) (xLe_s (xLe_s (xLe_s (xLe_n (xLe_n xLe_0)))))
    · rw [if_neg q] at h
      refine x_aload_n (pc := 53) C dX5_canHold_53 rfl rfl ?_
      refine x_iconst (v := 1) (pc := 54) C dX5_canHold_54 (by decide) ?_
      obtain ⟨k, h⟩ := chk_s h
      refine x_rald (pc := 55) C k dX5_canHold_55 ?_
      refine x_aload_n (pc := 56) C dX5_canHold_56 rfl rfl ?_
      refine x_iconst (v := 2) (pc := 57) C dX5_canHold_57 (by decide) ?_
      obtain ⟨k, h⟩ := chk_s h
      refine x_rald (pc := 58) C k dX5_canHold_58 ?_
      refine x_iload_n (pc := 59) C dX5_canHold_59 rfl rfl ?_
      refine x_iload (pc := 60) C dX5_canHold_60 rfl ?_
      obtain ⟨v1, σ2, k, h⟩ := bnd_s h
      refine x_callS1 (pc := 62) C (mX1_isPair E l k) cX5_135 zX1_isPair rfl rfl (Nat.le_of_ble_eq_true rfl) ⟨Nat.le_of_ble_eq_true rfl, Nat.le_of_ble_eq_true rfl, Nat.le_of_ble_eq_true rfl, Nat.le_of_ble_eq_true rfl⟩ dX5_canHold_62 ?_
      refine x_if_eq (pc := 65) (tgt := 91) C dX5_canHold_65 (by decide) (fun q => ?_) (fun q => ?_)
      · rw [if_pos q] at h
        exact x_sub (tX5_canHold_91 C hr h) (xLe_n (xLe_n (xLe_n (xLe_n (xLe_n xLe_0)))))
      · rw [if_neg q] at h
        exact x_sub (tX5_canHold_68 C hr h) (xLe_s (xLe_s (xLe_s (xLe_n (xLe_n xLe_0)))))
  · rw [if_neg q] at h
    exact x_sub (tX5_canHold_91 C hr h) (xLe_n (xLe_n (xLe_n (xLe_n (xLe_n xLe_0)))))
def DX5_provisoHolding_47 (l2 : Int32) (σ : Sg) : Option (Int32 × Sg) :=
  some (l2, σ)
theorem tX5_provisoHolding_47 {r : Int32} {σ' : Sg} (C : Cx E p s m args meth c RX5 cX5_provisoHolding 3) (hr : meth.sig.returnType = (some .int)) {l2 : Int32} {σ : Sg} (h : DX5_provisoHolding_47 l2 σ = some (r, σ')) : Y E p l e (rmA 3 0 0) s m args below meth c (some (.int r)) σ' 0 0 3 0 0 σ 47 [none, none, some (.int l2)] [] := by
  unfold DX5_provisoHolding_47 at h
  refine x_iload_n (pc := 47) C dX5_provisoHolding_47 rfl rfl ?_
  cases h
  exact x_iret C hr dX5_provisoHolding_48
def DX5_provisoHolding_49 (K2 : Nat → Int32 → Int32 → Sg → Option (Int32 × Sg)) (l0 : Nat) (l1 : Int32) (l2 : Int32) (σ : Sg) : Option (Int32 × Sg) :=
  K2 l0 l1 (l2 + (1 : Int32)) σ
theorem tX5_provisoHolding_49 {r : Int32} {σ' : Sg} (C : Cx E p s m args meth c RX5 cX5_provisoHolding 3) (hr : meth.sig.returnType = (some .int)) {K2 : Nat → Int32 → Int32 → Sg → Option (Int32 × Sg)} (hK2 : ∀ (l0 : Nat) (l1 : Int32) (l2 : Int32) (σ : Sg), K2 l0 l1 l2 σ = some (r, σ') → Y E p l e (rmA 3 0 0) s m args below meth c (some (.int r)) σ' 0 0 3 0 0 σ 2 [some (.ref (ad E l0)), some (.int l1), some (.int l2)] []) {l0 : Nat} {l1 : Int32} {l2 : Int32} {σ : Sg} (h : DX5_provisoHolding_49 K2 l0 l1 l2 σ = some (r, σ')) : Y E p l e (rmA 3 0 0) s m args below meth c (some (.int r)) σ' 0 0 3 0 0 σ 49 [some (.ref (ad E l0)), some (.int l1), some (.int l2)] [] := by
  unfold DX5_provisoHolding_49 at h
  refine x_iinc (v := 1) (M := [some _, some _, some _]) (pc := 49) C dX5_provisoHolding_49 rfl (by decide) (by decide) rfl ?_
  refine x_goto (tgt := 2) (pc := 52) C dX5_provisoHolding_52 (by decide) ?_
  exact x_sub (hK2 _ _ _ _ h) (xLe_s (xLe_s (xLe_s xLe_0)))
def DX5_provisoHolding_55 (σ : Sg) : Option (Int32 × Sg) :=
  some ((-1 : Int32), σ)
theorem tX5_provisoHolding_55 {r : Int32} {σ' : Sg} (C : Cx E p s m args meth c RX5 cX5_provisoHolding 3) (hr : meth.sig.returnType = (some .int)) {σ : Sg} (h : DX5_provisoHolding_55  σ = some (r, σ')) : Y E p l e (rmA 3 0 0) s m args below meth c (some (.int r)) σ' 0 0 3 0 0 σ 55 [none, none, none] [] := by
  unfold DX5_provisoHolding_55 at h
  refine x_iconst (v := -1) (pc := 55) C dX5_provisoHolding_55 (by decide) ?_
  cases h
  exact x_iret C hr dX5_provisoHolding_56
def DX5_provisoHolding_2 : Nat → Nat → Int32 → Int32 → Sg → Option (Int32 × Sg)
  | 0, _, _, _, _ => none
  | n + 1, l0, l1, l2, σ =>
    chk (ckO σ 4 l0) <|
    chk (ckV (gR σ l0 0)) <|
    chk (ckO σ 0 (gR σ l0 0)) <|
    if (gI σ (gR σ l0 0) 5) ≤ l2 then
      DX5_provisoHolding_55 σ
    else
      chk (ckO σ 4 l0) <|
      if (gI σ l0 5) = (-2 : Int32) then
        DX5_provisoHolding_55 σ
      else
        chk (ckO σ 4 l0) <|
        if l2 = (gI σ l0 5) then
          DX5_provisoHolding_49 (DX5_provisoHolding_2 n) l0 l1 l2 σ
        else
          chk (ckO σ 4 l0) <|
          chk (ckV (gR σ l0 0)) <|
          chk (ckO σ 0 (gR σ l0 0)) <|
          chk (ckV (gR σ (gR σ l0 0) 16)) <|
          chk (ckG σ (gR σ (gR σ l0 0) 16) l2) <|
          chk (ckO σ 4 l0) <|
          bnd (DX5_canHold l0 (gR σ (gR σ l0 0) 16) l2.toNatClampNeg l1 σ) fun v1 σ2 =>
          if v1 = 0 then
            DX5_provisoHolding_49 (DX5_provisoHolding_2 n) l0 l1 l2 σ2
          else
            DX5_provisoHolding_47 l2 σ2
theorem tX5_provisoHolding_2 {r : Int32} {σ' : Sg} (C : Cx E p s m args meth c RX5 cX5_provisoHolding 3) (hr : meth.sig.returnType = (some .int)) : ∀ (n : Nat) (l0 : Nat) (l1 : Int32) (l2 : Int32) (σ : Sg) (h : DX5_provisoHolding_2 n l0 l1 l2 σ = some (r, σ')), Y E p l e (rmA 3 0 0) s m args below meth c (some (.int r)) σ' 0 0 3 0 0 σ 2 [some (.ref (ad E l0)), some (.int l1), some (.int l2)] [] := by
  intro n
  induction n with
  | zero => intro l0 l1 l2 σ h; cases h
  | succ n ih =>
    intro l0 l1 l2 σ h
    unfold DX5_provisoHolding_2 at h
    refine x_iload_n (pc := 2) C dX5_provisoHolding_2 rfl rfl ?_
    refine x_aload_n (pc := 3) C dX5_provisoHolding_3 rfl rfl ?_
    obtain ⟨k, h⟩ := chk_s h
    have k2 := k
    obtain ⟨k, h⟩ := chk_s h
    refine x_getR (pc := 4) C fX5_67 rfl k2 k dX5_provisoHolding_4 ?_
    obtain ⟨k, h⟩ := chk_s h
    refine x_getI (pc := 7) C fX5_125 rfl k dX5_provisoHolding_7 ?_
    refine x_icmp_ge (pc := 10) (tgt := 55) C dX5_provisoHolding_10 (by decide) (fun q => ?_) (fun q => ?_)
    · rw [if_pos q] at h
      exact x_sub (tX5_provisoHolding_55 C hr h) (xLe_n (xLe_n (xLe_n xLe_0)))
    · rw [if_neg q] at h
      refine x_aload_n (pc := 13) C dX5_provisoHolding_13 rfl rfl ?_
      obtain ⟨k, h⟩ := chk_s h
      refine x_getI (pc := 14) C fX5_24 rfl k dX5_provisoHolding_14 ?_
      refine x_bipush (v := -2) (pc := 17) C dX5_provisoHolding_17 (by decide) ?_
      refine x_icmp_eq (pc := 19) (tgt := 55) C dX5_provisoHolding_19 (by decide) (fun q => ?_) (fun q => ?_)
      · rw [if_pos q] at h
        exact x_sub (tX5_provisoHolding_55 C hr h) (xLe_n (xLe_n (xLe_n xLe_0)))
      · rw [if_neg q] at h
        refine x_iload_n (pc := 22) C dX5_provisoHolding_22 rfl rfl ?_
        refine x_aload_n (pc := 23) C dX5_provisoHolding_23 rfl rfl ?_
        obtain ⟨k, h⟩ := chk_s h
        refine x_getI (pc := 24) C fX5_24 rfl k dX5_provisoHolding_24 ?_
        refine x_icmp_eq (pc := 27) (tgt := 49) C dX5_provisoHolding_27 (by decide) (fun q => ?_) (fun q => ?_)
        · rw [if_pos q] at h
          exact x_sub (tX5_provisoHolding_49 C hr ih h) (xLe_s (xLe_s (xLe_s xLe_0)))
        · rw [if_neg q] at h
          refine x_aload_n (pc := 30) C dX5_provisoHolding_30 rfl rfl ?_
          refine x_aload_n (pc := 31) C dX5_provisoHolding_31 rfl rfl ?_
          obtain ⟨k, h⟩ := chk_s h
          have k2 := k
          obtain ⟨k, h⟩ := chk_s h
          refine x_getR (pc := 32) C fX5_67 rfl k2 k dX5_provisoHolding_32 ?_
          obtain ⟨k, h⟩ := chk_s h
          have k2 := k
          obtain ⟨k, h⟩ := chk_s h
          refine x_getR (pc := 35) C fX5_120 rfl k2 k dX5_provisoHolding_35 ?_
          refine x_iload_n (pc := 38) C dX5_provisoHolding_38 rfl rfl ?_
          obtain ⟨k, h⟩ := chk_s h
          refine x_gald (pc := 39) C k dX5_provisoHolding_39 ?_
          refine x_iload_n (pc := 40) C dX5_provisoHolding_40 rfl rfl ?_
          obtain ⟨k, h⟩ := chk_s h
          have k2 := k
          obtain ⟨v1, σ2, k, h⟩ := bnd_s h
          refine x_callV1 (pc := 41) C (mX5_canHold E l k) cl4 k2 cX5_128 nX5_canHold sX5_canHold rfl rfl (Nat.le_of_ble_eq_true rfl) ⟨Nat.le_of_ble_eq_true rfl, Nat.le_of_ble_eq_true rfl, Nat.le_of_ble_eq_true rfl, Nat.le_of_ble_eq_true rfl⟩ dX5_provisoHolding_41 ?_
          refine x_if_eq (pc := 44) (tgt := 49) C dX5_provisoHolding_44 (by decide) (fun q => ?_) (fun q => ?_)
          · rw [if_pos q] at h
            exact x_sub (tX5_provisoHolding_49 C hr ih h) (xLe_s (xLe_s (xLe_s xLe_0)))
          · rw [if_neg q] at h
            exact x_sub (tX5_provisoHolding_47 C hr h) (xLe_n (xLe_n (xLe_s xLe_0)))
def DX5_provisoHolding (l0 : Nat) (l1 : Int32) (σ : Sg) : Option (Int32 × Sg) :=
  DX5_provisoHolding_2 FU l0 l1 (0 : Int32) σ
theorem mX5_provisoHolding (E : Ev) (l : Launch) {l0 : Nat} {l1 : Int32} {σ : Sg} {r : Int32} {σ' : Sg} (h : DX5_provisoHolding l0 l1 σ = some (r, σ')) : Mt E l yX5_provisoHolding cX5_provisoHolding 3 (some .int) 3 0 0 [.ref (ad E l0), .int l1] σ (some (.int r)) σ' := by
  refine Mt.ofX (by decide) (Nat.le_of_ble_eq_true rfl) (L0 := [some (.ref (ad E l0)), some (.int l1), none]) (xEntN_ok [.ref (ad E l0), .int l1] 3) (fun p e s m args below meth c C hr hn => ?_)
  unfold DX5_provisoHolding at h
  refine x_iconst (v := 0) (pc := 0) C dX5_provisoHolding_0 (by decide) ?_
  refine x_istore_n (M := [some _, some _, some _]) (pc := 1) C dX5_provisoHolding_1 rfl (by decide) rfl ?_
  exact x_sub (tX5_provisoHolding_2 C hr FU _ _ _ _ h) (xLe_s (xLe_s (xLe_s xLe_0)))
def DX5_weigh_89 (σ : Sg) : Option (Unit × Sg) :=
  some ((), σ)
theorem tX5_weigh_89 {r : Unit} {σ' : Sg} (C : Cx E p s m args meth c RX5 cX5_weigh 3) (hr : meth.sig.returnType = none) {σ : Sg} (h : DX5_weigh_89  σ = some (r, σ')) : Y E p l e (rmA 2 0 0) s m args below meth c none σ' 0 0 3 0 0 σ 89 [none, none, none] [] := by
  unfold DX5_weigh_89 at h
  cases h
  exact x_vret C hr dX5_weigh_89
def DX5_weigh_88 (s0 : Nat) (s1 : Int32) (s2 : Int64) (σ : Sg) : Option (Unit × Sg) :=
  chk (ckJ σ s0 s1) <|
  wlet (wJ σ s0 s1.toNatClampNeg s2) fun σ1 =>
  DX5_weigh_89 σ1
theorem tX5_weigh_88 {r : Unit} {σ' : Sg} (C : Cx E p s m args meth c RX5 cX5_weigh 3) (hr : meth.sig.returnType = none) {s0 : Nat} {s1 : Int32} {s2 : Int64} {σ : Sg} (h : DX5_weigh_88 s0 s1 s2 σ = some (r, σ')) : Y E p l e (rmA 2 0 0) s m args below meth c none σ' 0 0 3 0 0 σ 88 [none, none, none] [.long s2, .int s1, .ref (ad E s0)] := by
  unfold DX5_weigh_88 at h
  obtain ⟨k, h⟩ := chk_s h
  obtain ⟨σ1, e1, h⟩ := wlet_s h
  refine x_last (pc := 88) C k dX5_weigh_88 (x_eq e1 ?_)
  exact x_sub (tX5_weigh_89 C hr h) (xLe_n (xLe_n (xLe_n xLe_0)))
def DX5_weigh (l0 : Nat) (l1 : Int32) (σ : Sg) : Option (Unit × Sg) :=
  chk (ckO σ 4 l0) <|
  chk (ckV (gR σ l0 8)) <|
  chk (ckI σ (gR σ l0 8) l1) <|
  wlet (wI σ (gR σ l0 8) l1.toNatClampNeg (0 : Int32)) fun σ1 =>
  chk (ckO σ1 4 l0) <|
  chk (ckV (gR σ1 l0 10)) <|
  chk (ckJ σ1 (gR σ1 l0 10) l1) <|
  wlet (wJ σ1 (gR σ1 l0 10) l1.toNatClampNeg (0 : Int64)) fun σ2 =>
  chk (ckO σ2 4 l0) <|
  chk (ckV (gR σ2 l0 7)) <|
  chk (ckI σ2 (gR σ2 l0 7) l1) <|
  if (aI σ2 (gR σ2 l0 7) l1.toNatClampNeg) = (-1 : Int32) then
    DX5_weigh_89 σ2
  else
    chk (ckO σ2 4 l0) <|
    chk (ckV (gR σ2 l0 0)) <|
    chk (ckO σ2 0 (gR σ2 l0 0)) <|
    chk (ckV (gR σ2 (gR σ2 l0 0) 16)) <|
    chk (ckO σ2 4 l0) <|
    chk (ckV (gR σ2 l0 7)) <|
    chk (ckI σ2 (gR σ2 l0 7) l1) <|
    chk (ckG σ2 (gR σ2 (gR σ2 l0 0) 16) (aI σ2 (gR σ2 l0 7) l1.toNatClampNeg)) <|
    chk (ckO σ2 4 l0) <|
    chk (ckV (gR σ2 l0 8)) <|
    chk (ckR σ2 (gR σ2 (gR σ2 l0 0) 16) ((aI σ2 (gR σ2 l0 7) l1.toNatClampNeg).toNatClampNeg) (3 : Int32)) <|
    chk (ckI σ2 (gR σ2 l0 8) l1) <|
    wlet (wI σ2 (gR σ2 l0 8) l1.toNatClampNeg (aG σ2 (gR σ2 (gR σ2 l0 0) 16) ((aI σ2 (gR σ2 l0 7) l1.toNatClampNeg).toNatClampNeg) (3 : Int32).toNatClampNeg)) fun σ3 =>
    chk (ckO σ3 4 l0) <|
    chk (ckV (gR σ3 l0 10)) <|
    chk (ckR σ3 (gR σ2 (gR σ2 l0 0) 16) ((aI σ2 (gR σ2 l0 7) l1.toNatClampNeg).toNatClampNeg) (3 : Int32)) <|
    if (aG σ3 (gR σ2 (gR σ2 l0 0) 16) ((aI σ2 (gR σ2 l0 7) l1.toNatClampNeg).toNatClampNeg) (3 : Int32).toNatClampNeg) = (2 : Int32) then
      chk (ckO σ3 4 l0) <|
      chk (ckV (gR σ3 l0 0)) <|
      chk (ckO σ3 4 l0) <|
      chk (ckO σ3 0 (gR σ3 l0 0)) <|
      bnd (DX1_fareOf (gR σ3 l0 0) (gI σ3 l0 1) σ3) fun v4 σ5 =>
      chk (ckR σ5 (gR σ2 (gR σ2 l0 0) 16) ((aI σ2 (gR σ2 l0 7) l1.toNatClampNeg).toNatClampNeg) (4 : Int32)) <|
      chk (ckM (100 : Int64)) <|
      DX5_weigh_88 (gR σ3 l0 10) l1 ((v4.toInt64 * ((aG σ5 (gR σ2 (gR σ2 l0 0) 16) ((aI σ2 (gR σ2 l0 7) l1.toNatClampNeg).toNatClampNeg) (4 : Int32).toNatClampNeg).toInt64)) / (100 : Int64)) σ5
    else
      chk (ckR σ3 (gR σ2 (gR σ2 l0 0) 16) ((aI σ2 (gR σ2 l0 7) l1.toNatClampNeg).toNatClampNeg) (4 : Int32)) <|
      DX5_weigh_88 (gR σ3 l0 10) l1 ((aG σ3 (gR σ2 (gR σ2 l0 0) 16) ((aI σ2 (gR σ2 l0 7) l1.toNatClampNeg).toNatClampNeg) (4 : Int32).toNatClampNeg).toInt64) σ3
theorem mX5_weigh (E : Ev) (l : Launch) {l0 : Nat} {l1 : Int32} {σ : Sg} {r : Unit} {σ' : Sg} (h : DX5_weigh l0 l1 σ = some (r, σ')) : Mt E l yX5_weigh cX5_weigh 3 none 2 0 0 [.ref (ad E l0), .int l1] σ none σ' := by
  refine Mt.ofX (by decide) (Nat.le_of_ble_eq_true rfl) (L0 := [some (.ref (ad E l0)), some (.int l1), none]) (xEntN_ok [.ref (ad E l0), .int l1] 3) (fun p e s m args below meth c C hr hn => ?_)
  unfold DX5_weigh at h
  refine x_aload_n (pc := 0) C dX5_weigh_0 rfl rfl ?_
  obtain ⟨k, h⟩ := chk_s h
  have k2 := k
  obtain ⟨k, h⟩ := chk_s h
  refine x_getR (pc := 1) C fX5_34 rfl k2 k dX5_weigh_1 ?_
  refine x_iload_n (pc := 4) C dX5_weigh_4 rfl rfl ?_
  refine x_iconst (v := 0) (pc := 5) C dX5_weigh_5 (by decide) ?_
  obtain ⟨k, h⟩ := chk_s h
  obtain ⟨σ1, e1, h⟩ := wlet_s h
  refine x_iast (pc := 6) C k dX5_weigh_6 (x_eq e1 ?_)
  refine x_aload_n (pc := 7) C dX5_weigh_7 rfl rfl ?_
  obtain ⟨k, h⟩ := chk_s h
  have k2 := k
  obtain ⟨k, h⟩ := chk_s h
  refine x_getR (pc := 8) C fX5_40 rfl k2 k dX5_weigh_8 ?_
  refine x_iload_n (pc := 11) C dX5_weigh_11 rfl rfl ?_
  refine x_lconst (v := 0) (pc := 12) C dX5_weigh_12 (by decide) ?_
  obtain ⟨k, h⟩ := chk_s h
  obtain ⟨σ2, e1, h⟩ := wlet_s h
  refine x_last (pc := 13) C k dX5_weigh_13 (x_eq e1 ?_)
  refine x_aload_n (pc := 14) C dX5_weigh_14 rfl rfl ?_
  obtain ⟨k, h⟩ := chk_s h
  have k2 := k
  obtain ⟨k, h⟩ := chk_s h
  refine x_getR (pc := 15) C fX5_31 rfl k2 k dX5_weigh_15 ?_
  refine x_iload_n (pc := 18) C dX5_weigh_18 rfl rfl ?_
  obtain ⟨k, h⟩ := chk_s h
  refine x_iald (pc := 19) C k dX5_weigh_19 ?_
  refine x_iconst (v := -1) (pc := 20) C dX5_weigh_20 (by decide) ?_
  refine x_icmp_eq (pc := 21) (tgt := 89) C dX5_weigh_21 (by decide) (fun q => ?_) (fun q => ?_)
  · rw [if_pos q] at h
    exact x_sub (tX5_weigh_89 C hr h) (xLe_n (xLe_n (xLe_n xLe_0)))
  · rw [if_neg q] at h
    refine x_aload_n (pc := 24) C dX5_weigh_24 rfl rfl ?_
    obtain ⟨k, h⟩ := chk_s h
    have k2 := k
    obtain ⟨k, h⟩ := chk_s h
    refine x_getR (pc := 25) C fX5_67 rfl k2 k dX5_weigh_25 ?_
    obtain ⟨k, h⟩ := chk_s h
    have k2 := k
    obtain ⟨k, h⟩ := chk_s h
    refine x_getR (pc := 28) C fX5_120 rfl k2 k dX5_weigh_28 ?_
    refine x_aload_n (pc := 31) C dX5_weigh_31 rfl rfl ?_
    obtain ⟨k, h⟩ := chk_s h
    have k2 := k
    obtain ⟨k, h⟩ := chk_s h
    refine x_getR (pc := 32) C fX5_31 rfl k2 k dX5_weigh_32 ?_
    refine x_iload_n (pc := 35) C dX5_weigh_35 rfl rfl ?_
    obtain ⟨k, h⟩ := chk_s h
    refine x_iald (pc := 36) C k dX5_weigh_36 ?_
    obtain ⟨k, h⟩ := chk_s h
    refine x_gald (pc := 37) C k dX5_weigh_37 ?_
    refine x_astore_n (M := [some _, some _, some _]) (pc := 38) C dX5_weigh_38 rfl (by decide) rfl ?_
    refine x_aload_n (pc := 39) C dX5_weigh_39 rfl rfl ?_
    obtain ⟨k, h⟩ := chk_s h
    have k2 := k
    obtain ⟨k, h⟩ := chk_s h
    refine x_getR (pc := 40) C fX5_34 rfl k2 k dX5_weigh_40 ?_
    refine x_iload_n (pc := 43) C dX5_weigh_43 rfl rfl ?_
    refine x_aload_n (pc := 44) C dX5_weigh_44 rfl rfl ?_
    refine x_iconst (v := 3) (pc := 45) C dX5_weigh_45 (by decide) ?_
    obtain ⟨k, h⟩ := chk_s h
    refine x_rald (pc := 46) C k dX5_weigh_46 ?_
    obtain ⟨k, h⟩ := chk_s h
    obtain ⟨σ3, e1, h⟩ := wlet_s h
    refine x_iast (pc := 47) C k dX5_weigh_47 (x_eq e1 ?_)
    refine x_aload_n (pc := 48) C dX5_weigh_48 rfl rfl ?_
    obtain ⟨k, h⟩ := chk_s h
    have k2 := k
    obtain ⟨k, h⟩ := chk_s h
    refine x_getR (pc := 49) C fX5_40 rfl k2 k dX5_weigh_49 ?_
    refine x_iload_n (pc := 52) C dX5_weigh_52 rfl rfl ?_
    refine x_aload_n (pc := 53) C dX5_weigh_53 rfl rfl ?_
    refine x_iconst (v := 3) (pc := 54) C dX5_weigh_54 (by decide) ?_
    obtain ⟨k, h⟩ := chk_s h
    refine x_rald (pc := 55) C k dX5_weigh_55 ?_
    refine x_iconst (v := 2) (pc := 56) C dX5_weigh_56 (by decide) ?_
    refine x_icmp_ne (pc := 57) (tgt := 84) C dX5_weigh_57 (by decide) (fun q => ?_) (fun q => ?_)
    · rw [if_pos q] at h
      refine x_aload_n (pc := 60) C dX5_weigh_60 rfl rfl ?_
      obtain ⟨k, h⟩ := chk_s h
      have k2 := k
      obtain ⟨k, h⟩ := chk_s h
      refine x_getR (pc := 61) C fX5_67 rfl k2 k dX5_weigh_61 ?_
      refine x_aload_n (pc := 64) C dX5_weigh_64 rfl rfl ?_
      obtain ⟨k, h⟩ := chk_s h
      refine x_getI (pc := 65) C fX5_9 rfl k dX5_weigh_65 ?_
      obtain ⟨k, h⟩ := chk_s h
      have k2 := k
      obtain ⟨v4, σ5, k, h⟩ := bnd_s h
      refine x_callV1 (pc := 68) C (mX1_fareOf E l k) cl0 k2 cX5_90 nX1_fareOf sX1_fareOf rfl rfl (Nat.le_of_ble_eq_true rfl) ⟨Nat.le_of_ble_eq_true rfl, Nat.le_of_ble_eq_true rfl, Nat.le_of_ble_eq_true rfl, Nat.le_of_ble_eq_true rfl⟩ dX5_weigh_68 ?_
      refine x_i2l (pc := 71) C dX5_weigh_71 ?_
      refine x_aload_n (pc := 72) C dX5_weigh_72 rfl rfl ?_
      refine x_iconst (v := 4) (pc := 73) C dX5_weigh_73 (by decide) ?_
      obtain ⟨k, h⟩ := chk_s h
      refine x_rald (pc := 74) C k dX5_weigh_74 ?_
      refine x_i2l (pc := 75) C dX5_weigh_75 ?_
      refine x_lmul (pc := 76) C dX5_weigh_76 ?_
      refine x_ldc2_w (pc := 77) C kX5_123 dX5_weigh_77 ?_
      obtain ⟨k, h⟩ := chk_s h
      refine x_ldiv (pc := 80) C dX5_weigh_80 (ckM_s k) ?_
      refine x_goto (tgt := 88) (pc := 81) C dX5_weigh_81 (by decide) ?_
      exact x_sub (tX5_weigh_88 C hr h) (xLe_n (xLe_n (xLe_n xLe_0)))
    · rw [if_neg q] at h
      refine x_aload_n (pc := 84) C dX5_weigh_84 rfl rfl ?_
      refine x_iconst (v := 4) (pc := 85) C dX5_weigh_85 (by decide) ?_
      obtain ⟨k, h⟩ := chk_s h
      refine x_rald (pc := 86) C k dX5_weigh_86 ?_
      refine x_i2l (pc := 87) C dX5_weigh_87 ?_
      exact x_sub (tX5_weigh_88 C hr h) (xLe_n (xLe_n (xLe_n xLe_0)))
def DX5_factorOf_98 (s0 : Int64) (σ : Sg) : Option (Int64 × Sg) :=
  some (s0, σ)
theorem tX5_factorOf_98 {r : Int64} {σ' : Sg} (C : Cx E p s m args meth c RX5 cX5_factorOf 4) (hr : meth.sig.returnType = (some .long)) {s0 : Int64} {σ : Sg} (h : DX5_factorOf_98 s0 σ = some (r, σ')) : Y E p l e (rmA 3 0 0) s m args below meth c (some (.long r)) σ' 0 0 4 0 0 σ 98 [none, none, none, none] [.long s0] := by
  unfold DX5_factorOf_98 at h
  cases h
  exact x_lret C hr dX5_factorOf_98
def DX5_factorOf (l0 : Nat) (l1 : Int32) (σ : Sg) : Option (Int64 × Sg) :=
  chk (ckO σ 4 l0) <|
  chk (ckV (gR σ l0 0)) <|
  chk (ckO σ 4 l0) <|
  chk (ckO σ 0 (gR σ l0 0)) <|
  bnd (DX1_milesOf (gR σ l0 0) (gI σ l0 1) l1 σ) fun v1 σ2 =>
  chk (ckO σ2 4 l0) <|
  if (gI σ2 l0 4) = 0 then
    chk (ckO σ2 4 l0) <|
    chk (ckV (gR σ2 l0 0)) <|
    chk (ckO σ2 0 (gR σ2 l0 0)) <|
    bnd (DX1_weightOf (gR σ2 l0 0) v1 σ2) fun v3 σ4 =>
    some ((v1.toInt64 * v3.toInt64), σ4)
  else
    chk (ckO σ2 4 l0) <|
    chk (ckV (gR σ2 l0 0)) <|
    chk (ckO σ2 4 l0) <|
    chk (ckV (gR σ2 l0 6)) <|
    chk (ckI σ2 (gR σ2 l0 6) l1) <|
    chk (ckO σ2 4 l0) <|
    chk (ckV (gR σ2 l0 0)) <|
    chk (ckO σ2 0 (gR σ2 l0 0)) <|
    chk (ckV (gR σ2 (gR σ2 l0 0) 19)) <|
    chk (ckO σ2 4 l0) <|
    chk (ckG σ2 (gR σ2 (gR σ2 l0 0) 19) (gI σ2 l0 1)) <|
    chk (ckR σ2 (gR σ2 (gR σ2 l0 0) 19) ((gI σ2 l0 1).toNatClampNeg) l1) <|
    chk (ckO σ2 4 l0) <|
    chk (ckV (gR σ2 l0 0)) <|
    chk (ckO σ2 0 (gR σ2 l0 0)) <|
    chk (ckV (gR σ2 (gR σ2 l0 0) 19)) <|
    chk (ckO σ2 4 l0) <|
    chk (ckG σ2 (gR σ2 (gR σ2 l0 0) 19) (gI σ2 l0 1)) <|
    chk (ckR σ2 (gR σ2 (gR σ2 l0 0) 19) ((gI σ2 l0 1).toNatClampNeg) (l1 + (1 : Int32))) <|
    chk (ckO σ2 0 (gR σ2 l0 0)) <|
    bnd (DX1_baseOf (gR σ2 l0 0) (aI σ2 (gR σ2 l0 6) l1.toNatClampNeg) (aG σ2 (gR σ2 (gR σ2 l0 0) 19) ((gI σ2 l0 1).toNatClampNeg) l1.toNatClampNeg) (aG σ2 (gR σ2 (gR σ2 l0 0) 19) ((gI σ2 l0 1).toNatClampNeg) (l1 + (1 : Int32)).toNatClampNeg) σ2) fun v5 σ6 =>
    if v5 = (-1 : Int32) then
      chk (ckO σ6 4 l0) <|
      chk (ckV (gR σ6 l0 0)) <|
      chk (ckO σ6 0 (gR σ6 l0 0)) <|
      DX5_factorOf_98 (v1.toInt64 * ((gI σ6 (gR σ6 l0 0) 7).toInt64)) σ6
    else
      DX5_factorOf_98 v5.toInt64 σ6
theorem mX5_factorOf (E : Ev) (l : Launch) {l0 : Nat} {l1 : Int32} {σ : Sg} {r : Int64} {σ' : Sg} (h : DX5_factorOf l0 l1 σ = some (r, σ')) : Mt E l yX5_factorOf cX5_factorOf 4 (some .long) 3 0 0 [.ref (ad E l0), .int l1] σ (some (.long r)) σ' := by
  refine Mt.ofX (by decide) (Nat.le_of_ble_eq_true rfl) (L0 := [some (.ref (ad E l0)), some (.int l1), none, none]) (xEntN_ok [.ref (ad E l0), .int l1] 4) (fun p e s m args below meth c C hr hn => ?_)
  unfold DX5_factorOf at h
  refine x_aload_n (pc := 0) C dX5_factorOf_0 rfl rfl ?_
  obtain ⟨k, h⟩ := chk_s h
  have k2 := k
  obtain ⟨k, h⟩ := chk_s h
  refine x_getR (pc := 1) C fX5_67 rfl k2 k dX5_factorOf_1 ?_
  refine x_aload_n (pc := 4) C dX5_factorOf_4 rfl rfl ?_
  obtain ⟨k, h⟩ := chk_s h
  refine x_getI (pc := 5) C fX5_9 rfl k dX5_factorOf_5 ?_
  refine x_iload_n (pc := 8) C dX5_factorOf_8 rfl rfl ?_
  obtain ⟨k, h⟩ := chk_s h
  have k2 := k
  obtain ⟨v1, σ2, k, h⟩ := bnd_s h
  refine x_callV1 (pc := 9) C (mX1_milesOf E l k) cl0 k2 cX5_143 nX1_milesOf sX1_milesOf rfl rfl (Nat.le_of_ble_eq_true rfl) ⟨Nat.le_of_ble_eq_true rfl, Nat.le_of_ble_eq_true rfl, Nat.le_of_ble_eq_true rfl, Nat.le_of_ble_eq_true rfl⟩ dX5_factorOf_9 ?_
  refine x_istore_n (M := [some _, some _, some _, none]) (pc := 12) C dX5_factorOf_12 rfl (by decide) rfl ?_
  refine x_aload_n (pc := 13) C dX5_factorOf_13 rfl rfl ?_
  obtain ⟨k, h⟩ := chk_s h
  refine x_getI (pc := 14) C fX5_21 rfl k dX5_factorOf_14 ?_
  refine x_if_ne (pc := 17) (tgt := 33) C dX5_factorOf_17 (by decide) (fun q => ?_) (fun q => ?_)
  · rw [if_pos q] at h
    refine x_iload_n (pc := 20) C dX5_factorOf_20 rfl rfl ?_
    refine x_i2l (pc := 21) C dX5_factorOf_21 ?_
    refine x_aload_n (pc := 22) C dX5_factorOf_22 rfl rfl ?_
    obtain ⟨k, h⟩ := chk_s h
    have k2 := k
    obtain ⟨k, h⟩ := chk_s h
    refine x_getR (pc := 23) C fX5_67 rfl k2 k dX5_factorOf_23 ?_
    refine x_iload_n (pc := 26) C dX5_factorOf_26 rfl rfl ?_
    obtain ⟨k, h⟩ := chk_s h
    have k2 := k
    obtain ⟨v3, σ4, k, h⟩ := bnd_s h
    refine x_callV1 (pc := 27) C (mX1_weightOf E l k) cl0 k2 cX5_147 nX1_weightOf sX1_weightOf rfl rfl (Nat.le_of_ble_eq_true rfl) ⟨Nat.le_of_ble_eq_true rfl, Nat.le_of_ble_eq_true rfl, Nat.le_of_ble_eq_true rfl, Nat.le_of_ble_eq_true rfl⟩ dX5_factorOf_27 ?_
    refine x_i2l (pc := 30) C dX5_factorOf_30 ?_
    refine x_lmul (pc := 31) C dX5_factorOf_31 ?_
    cases h
    exact x_lret C hr dX5_factorOf_32
  · rw [if_neg q] at h
    refine x_aload_n (pc := 33) C dX5_factorOf_33 rfl rfl ?_
    obtain ⟨k, h⟩ := chk_s h
    have k2 := k
    obtain ⟨k, h⟩ := chk_s h
    refine x_getR (pc := 34) C fX5_67 rfl k2 k dX5_factorOf_34 ?_
    refine x_aload_n (pc := 37) C dX5_factorOf_37 rfl rfl ?_
    obtain ⟨k, h⟩ := chk_s h
    have k2 := k
    obtain ⟨k, h⟩ := chk_s h
    refine x_getR (pc := 38) C fX5_27 rfl k2 k dX5_factorOf_38 ?_
    refine x_iload_n (pc := 41) C dX5_factorOf_41 rfl rfl ?_
    obtain ⟨k, h⟩ := chk_s h
    refine x_iald (pc := 42) C k dX5_factorOf_42 ?_
    refine x_aload_n (pc := 43) C dX5_factorOf_43 rfl rfl ?_
    obtain ⟨k, h⟩ := chk_s h
    have k2 := k
    obtain ⟨k, h⟩ := chk_s h
    refine x_getR (pc := 44) C fX5_67 rfl k2 k dX5_factorOf_44 ?_
    obtain ⟨k, h⟩ := chk_s h
    have k2 := k
    obtain ⟨k, h⟩ := chk_s h
    refine x_getR (pc := 47) C fX5_132 rfl k2 k dX5_factorOf_47 ?_
    refine x_aload_n (pc := 50) C dX5_factorOf_50 rfl rfl ?_
    obtain ⟨k, h⟩ := chk_s h
    refine x_getI (pc := 51) C fX5_9 rfl k dX5_factorOf_51 ?_
    obtain ⟨k, h⟩ := chk_s h
    refine x_gald (pc := 54) C k dX5_factorOf_54 ?_
    refine x_iload_n (pc := 55) C dX5_factorOf_55 rfl rfl ?_
    obtain ⟨k, h⟩ := chk_s h
    refine x_rald (pc := 56) C k dX5_factorOf_56 ?_
    refine x_aload_n (pc := 57) C dX5_factorOf_57 rfl rfl ?_
    obtain ⟨k, h⟩ := chk_s h
    have k2 := k
    obtain ⟨k, h⟩ := chk_s h
    refine x_getR (pc := 58) C fX5_67 rfl k2 k dX5_factorOf_58 ?_
    obtain ⟨k, h⟩ := chk_s h
    have k2 := k
    obtain ⟨k, h⟩ := chk_s h
    refine x_getR (pc := 61) C fX5_132 rfl k2 k dX5_factorOf_61 ?_
    refine x_aload_n (pc := 64) C dX5_factorOf_64 rfl rfl ?_
    obtain ⟨k, h⟩ := chk_s h
    refine x_getI (pc := 65) C fX5_9 rfl k dX5_factorOf_65 ?_
    obtain ⟨k, h⟩ := chk_s h
    refine x_gald (pc := 68) C k dX5_factorOf_68 ?_
    refine x_iload_n (pc := 69) C dX5_factorOf_69 rfl rfl ?_
    refine x_iconst (v := 1) (pc := 70) C dX5_factorOf_70 (by decide) ?_
    refine x_iadd (pc := 71) C dX5_factorOf_71 ?_
    obtain ⟨k, h⟩ := chk_s h
    refine x_rald (pc := 72) C k dX5_factorOf_72 ?_
    obtain ⟨k, h⟩ := chk_s h
    have k2 := k
    obtain ⟨v5, σ6, k, h⟩ := bnd_s h
    refine x_callV1 (pc := 73) C (mX1_baseOf E l k) cl0 k2 cX5_150 nX1_baseOf sX1_baseOf rfl rfl (Nat.le_of_ble_eq_true rfl) ⟨Nat.le_of_ble_eq_true rfl, Nat.le_of_ble_eq_true rfl, Nat.le_of_ble_eq_true rfl, Nat.le_of_ble_eq_true rfl⟩ dX5_factorOf_73 ?_
    refine x_istore_n (M := [some _, some _, some _, some _]) (pc := 76) C dX5_factorOf_76 rfl (by decide) rfl ?_
    refine x_iload_n (pc := 77) C dX5_factorOf_77 rfl rfl ?_
    refine x_iconst (v := -1) (pc := 78) C dX5_factorOf_78 (by decide) ?_
    refine x_icmp_eq (pc := 79) (tgt := 87) C dX5_factorOf_79 (by decide) (fun q => ?_) (fun q => ?_)
    · rw [if_pos q] at h
      refine x_iload_n (pc := 87) C dX5_factorOf_87 rfl rfl ?_
      refine x_i2l (pc := 88) C dX5_factorOf_88 ?_
      refine x_aload_n (pc := 89) C dX5_factorOf_89 rfl rfl ?_
      obtain ⟨k, h⟩ := chk_s h
      have k2 := k
      obtain ⟨k, h⟩ := chk_s h
      refine x_getR (pc := 90) C fX5_67 rfl k2 k dX5_factorOf_90 ?_
      obtain ⟨k, h⟩ := chk_s h
      refine x_getI (pc := 93) C fX5_154 rfl k dX5_factorOf_93 ?_
      refine x_i2l (pc := 96) C dX5_factorOf_96 ?_
      refine x_lmul (pc := 97) C dX5_factorOf_97 ?_
      exact x_sub (tX5_factorOf_98 C hr h) (xLe_n (xLe_n (xLe_n (xLe_n xLe_0))))
    · rw [if_neg q] at h
      refine x_iload_n (pc := 82) C dX5_factorOf_82 rfl rfl ?_
      refine x_i2l (pc := 83) C dX5_factorOf_83 ?_
      refine x_goto (tgt := 98) (pc := 84) C dX5_factorOf_84 (by decide) ?_
      exact x_sub (tX5_factorOf_98 C hr h) (xLe_n (xLe_n (xLe_n (xLe_n xLe_0))))
def DX5_partPool_36 (K8 : Nat → Nat → Int64 → Int32 → Sg → Option (Unit × Sg)) (l0 : Nat) (l1 : Nat) (l4 : Int32) (s0 : Int64) (s1 : Int64) (σ : Sg) : Option (Unit × Sg) :=
  K8 l0 l1 (s0 + s1) (l4 + (1 : Int32)) σ
theorem tX5_partPool_36 {r : Unit} {σ' : Sg} (C : Cx E p s m args meth c RX5 cX5_partPool 9) (hr : meth.sig.returnType = none) {K8 : Nat → Nat → Int64 → Int32 → Sg → Option (Unit × Sg)} (hK8 : ∀ (l0 : Nat) (l1 : Nat) (l2 : Int64) (l4 : Int32) (σ : Sg), K8 l0 l1 l2 l4 σ = some (r, σ') → Y E p l e (rmA 1 0 0) s m args below meth c none σ' 0 0 9 0 0 σ 8 [some (.ref (ad E l0)), some (.ref (ad E l1)), some (.long l2), none, some (.int l4), none, none, none, none] []) {l0 : Nat} {l1 : Nat} {l4 : Int32} {s0 : Int64} {s1 : Int64} {σ : Sg} (h : DX5_partPool_36 K8 l0 l1 l4 s0 s1 σ = some (r, σ')) : Y E p l e (rmA 1 0 0) s m args below meth c none σ' 0 0 9 0 0 σ 36 [some (.ref (ad E l0)), some (.ref (ad E l1)), none, none, some (.int l4), none, none, none, none] [.long s1, .long s0] := by
  unfold DX5_partPool_36 at h
  refine x_ladd (pc := 36) C dX5_partPool_36 ?_
  refine x_lstore_n (M := [some _, some _, some _, none, some _, none, none, none, none]) (pc := 37) C dX5_partPool_37 rfl (by decide) rfl ?_
  refine x_iinc (v := 1) (M := [some _, some _, some _, none, some _, none, none, none, none]) (pc := 38) C dX5_partPool_38 rfl (by decide) (by decide) rfl ?_
  refine x_goto (tgt := 8) (pc := 41) C dX5_partPool_41 (by decide) ?_
  exact x_sub (hK8 _ _ _ _ _ h) (xLe_s (xLe_s (xLe_s (xLe_n (xLe_s (xLe_n (xLe_n (xLe_n (xLe_n xLe_0)))))))))
def DX5_partPool_133 (K63 : Nat → Nat → Int64 → Int64 → Int32 → Sg → Option (Unit × Sg)) (l0 : Nat) (l1 : Nat) (l2 : Int64) (l4 : Int64) (l6 : Int32) (σ : Sg) : Option (Unit × Sg) :=
  K63 l0 l1 l2 l4 (l6 + (1 : Int32)) σ
theorem tX5_partPool_133 {r : Unit} {σ' : Sg} (C : Cx E p s m args meth c RX5 cX5_partPool 9) (hr : meth.sig.returnType = none) {K63 : Nat → Nat → Int64 → Int64 → Int32 → Sg → Option (Unit × Sg)} (hK63 : ∀ (l0 : Nat) (l1 : Nat) (l2 : Int64) (l4 : Int64) (l6 : Int32) (σ : Sg), K63 l0 l1 l2 l4 l6 σ = some (r, σ') → Y E p l e (rmA 1 0 0) s m args below meth c none σ' 0 0 9 0 0 σ 63 [some (.ref (ad E l0)), some (.ref (ad E l1)), some (.long l2), none, some (.long l4), none, some (.int l6), none, none] []) {l0 : Nat} {l1 : Nat} {l2 : Int64} {l4 : Int64} {l6 : Int32} {σ : Sg} (h : DX5_partPool_133 K63 l0 l1 l2 l4 l6 σ = some (r, σ')) : Y E p l e (rmA 1 0 0) s m args below meth c none σ' 0 0 9 0 0 σ 133 [some (.ref (ad E l0)), some (.ref (ad E l1)), some (.long l2), none, some (.long l4), none, some (.int l6), none, none] [] := by
  unfold DX5_partPool_133 at h
  refine x_iinc (v := 1) (M := [some _, some _, some _, none, some _, none, some _, none, none]) (pc := 133) C dX5_partPool_133 rfl (by decide) (by decide) rfl ?_
  refine x_goto (tgt := 63) (pc := 136) C dX5_partPool_136 (by decide) ?_
  exact x_sub (hK63 _ _ _ _ _ _ h) (xLe_s (xLe_s (xLe_s (xLe_n (xLe_s (xLe_n (xLe_s (xLe_n (xLe_n xLe_0)))))))))
def DX5_partPool_139 (σ : Sg) : Option (Unit × Sg) :=
  some ((), σ)
theorem tX5_partPool_139 {r : Unit} {σ' : Sg} (C : Cx E p s m args meth c RX5 cX5_partPool 9) (hr : meth.sig.returnType = none) {σ : Sg} (h : DX5_partPool_139  σ = some (r, σ')) : Y E p l e (rmA 1 0 0) s m args below meth c none σ' 0 0 9 0 0 σ 139 [none, none, none, none, none, none, none, none, none] [] := by
  unfold DX5_partPool_139 at h
  cases h
  exact x_vret C hr dX5_partPool_139
def DX5_partPool_63 : Nat → Nat → Nat → Int64 → Int64 → Int32 → Sg → Option (Unit × Sg)
  | 0, _, _, _, _, _, _ => none
  | n + 1, l0, l1, l2, l4, l6, σ =>
    chk (ckO σ 4 l0) <|
    if (gI σ l0 2) ≤ l6 then
      DX5_partPool_139 σ
    else
      chk (ckO σ 4 l0) <|
      chk (ckV (gR σ l0 14)) <|
      chk (ckZ σ (gR σ l0 14) l6) <|
      if (aI σ (gR σ l0 14) l6.toNatClampNeg) = 0 then
        DX5_partPool_133 (DX5_partPool_63 n) l0 l1 l2 l4 l6 σ
      else
        chk (ckJ σ l1 l6) <|
        chk (ckM l2) <|
        chk (ckO σ 4 l0) <|
        chk (ckV (gR σ l0 12)) <|
        chk (ckI σ (gR σ l0 12) l6) <|
        chk (ckI σ (gR σ l0 12) l6) <|
        wlet (wI σ (gR σ l0 12) l6.toNatClampNeg ((aI σ (gR σ l0 12) l6.toNatClampNeg) + (((l4 * (aJ σ l1 l6.toNatClampNeg)) / l2).toInt32))) fun σ1 =>
        chk (ckO σ1 4 l0) <|
        chk (ckV (gR σ1 l0 13)) <|
        chk (ckJ σ1 l1 l6) <|
        chk (ckM l2) <|
        chk (ckJ σ1 (gR σ1 l0 13) l6) <|
        wlet (wJ σ1 (gR σ1 l0 13) l6.toNatClampNeg ((l4 * (aJ σ1 l1 l6.toNatClampNeg)) - (l4 * (aJ σ1 l1 l6.toNatClampNeg)) / l2 * l2)) fun σ2 =>
        chk (ckO σ2 4 l0) <|
        chk (ckO σ2 4 l0) <|
        wlet (pJ σ2 l0 15 ((gJ σ2 l0 15) - ((l4 * (aJ σ l1 l6.toNatClampNeg)) / l2))) fun σ3 =>
        DX5_partPool_133 (DX5_partPool_63 n) l0 l1 l2 l4 l6 σ3
theorem tX5_partPool_63 {r : Unit} {σ' : Sg} (C : Cx E p s m args meth c RX5 cX5_partPool 9) (hr : meth.sig.returnType = none) : ∀ (n : Nat) (l0 : Nat) (l1 : Nat) (l2 : Int64) (l4 : Int64) (l6 : Int32) (σ : Sg) (h : DX5_partPool_63 n l0 l1 l2 l4 l6 σ = some (r, σ')), Y E p l e (rmA 1 0 0) s m args below meth c none σ' 0 0 9 0 0 σ 63 [some (.ref (ad E l0)), some (.ref (ad E l1)), some (.long l2), none, some (.long l4), none, some (.int l6), none, none] [] := by
  intro n
  induction n with
  | zero => intro l0 l1 l2 l4 l6 σ h; cases h
  | succ n ih =>
    intro l0 l1 l2 l4 l6 σ h
    unfold DX5_partPool_63 at h
    refine x_iload (pc := 63) C dX5_partPool_63 rfl ?_
    refine x_aload_n (pc := 65) C dX5_partPool_65 rfl rfl ?_
    obtain ⟨k, h⟩ := chk_s h
    refine x_getI (pc := 66) C fX5_15 rfl k dX5_partPool_66 ?_
    refine x_icmp_ge (pc := 69) (tgt := 139) C dX5_partPool_69 (by decide) (fun q => ?_) (fun q => ?_)
    · rw [if_pos q] at h
      exact x_sub (tX5_partPool_139 C hr h) (xLe_n (xLe_n (xLe_n (xLe_n (xLe_n (xLe_n (xLe_n (xLe_n (xLe_n xLe_0)))))))))
    · rw [if_neg q] at h
      refine x_aload_n (pc := 72) C dX5_partPool_72 rfl rfl ?_
      obtain ⟨k, h⟩ := chk_s h
      have k2 := k
      obtain ⟨k, h⟩ := chk_s h
      refine x_getR (pc := 73) C fX5_53 rfl k2 k dX5_partPool_73 ?_
      refine x_iload (pc := 76) C dX5_partPool_76 rfl ?_
      obtain ⟨k, h⟩ := chk_s h
      refine x_zald (pc := 78) C k dX5_partPool_78 ?_
      refine x_if_eq (pc := 79) (tgt := 133) C dX5_partPool_79 (by decide) (fun q => ?_) (fun q => ?_)
      · rw [if_pos q] at h
        exact x_sub (tX5_partPool_133 C hr ih h) (xLe_s (xLe_s (xLe_s (xLe_n (xLe_s (xLe_n (xLe_s (xLe_n (xLe_n xLe_0)))))))))
      · rw [if_neg q] at h
        refine x_lload (pc := 82) C dX5_partPool_82 rfl ?_
        refine x_aload_n (pc := 84) C dX5_partPool_84 rfl rfl ?_
        refine x_iload (pc := 85) C dX5_partPool_85 rfl ?_
        obtain ⟨k, h⟩ := chk_s h
        refine x_lald (pc := 87) C k dX5_partPool_87 ?_
        refine x_lmul (pc := 88) C dX5_partPool_88 ?_
        refine x_lload_n (pc := 89) C dX5_partPool_89 rfl rfl ?_
        obtain ⟨k, h⟩ := chk_s h
        refine x_ldiv (pc := 90) C dX5_partPool_90 (ckM_s k) ?_
        refine x_lstore (M := [some _, some _, some _, none, some _, none, some _, some _, none]) (pc := 91) C dX5_partPool_91 (by decide) rfl ?_
        refine x_aload_n (pc := 93) C dX5_partPool_93 rfl rfl ?_
        obtain ⟨k, h⟩ := chk_s h
        have k2 := k
        obtain ⟨k, h⟩ := chk_s h
        refine x_getR (pc := 94) C fX5_47 rfl k2 k dX5_partPool_94 ?_
        refine x_iload (pc := 97) C dX5_partPool_97 rfl ?_
        refine x_dup2 (pc := 99) C dX5_partPool_99 rfl rfl ?_
        obtain ⟨k, h⟩ := chk_s h
        refine x_iald (pc := 100) C k dX5_partPool_100 ?_
        refine x_lload (pc := 101) C dX5_partPool_101 rfl ?_
        refine x_l2i (pc := 103) C dX5_partPool_103 ?_
        refine x_iadd (pc := 104) C dX5_partPool_104 ?_
        obtain ⟨k, h⟩ := chk_s h
        obtain ⟨σ1, e1, h⟩ := wlet_s h
        refine x_iast (pc := 105) C k dX5_partPool_105 (x_eq e1 ?_)
        refine x_aload_n (pc := 106) C dX5_partPool_106 rfl rfl ?_
        obtain ⟨k, h⟩ := chk_s h
        have k2 := k
        obtain ⟨k, h⟩ := chk_s h
        refine x_getR (pc := 107) C fX5_50 rfl k2 k dX5_partPool_107 ?_
        refine x_iload (pc := 110) C dX5_partPool_110 rfl ?_
        refine x_lload (pc := 112) C dX5_partPool_112 rfl ?_
        refine x_aload_n (pc := 114) C dX5_partPool_114 rfl rfl ?_
        refine x_iload (pc := 115) C dX5_partPool_115 rfl ?_
        obtain ⟨k, h⟩ := chk_s h
        refine x_lald (pc := 117) C k dX5_partPool_117 ?_
        refine x_lmul (pc := 118) C dX5_partPool_118 ?_
        refine x_lload_n (pc := 119) C dX5_partPool_119 rfl rfl ?_
        obtain ⟨k, h⟩ := chk_s h
        refine x_lrem (pc := 120) C dX5_partPool_120 (ckM_s k) ?_
        obtain ⟨k, h⟩ := chk_s h
        obtain ⟨σ2, e1, h⟩ := wlet_s h
        refine x_last (pc := 121) C k dX5_partPool_121 (x_eq e1 ?_)
        refine x_aload_n (pc := 122) C dX5_partPool_122 rfl rfl ?_
        refine x_dup (pc := 123) C dX5_partPool_123 rfl ?_
        obtain ⟨k, h⟩ := chk_s h
        refine x_getJ (pc := 124) C fX5_57 rfl k dX5_partPool_124 ?_
        refine x_lload (pc := 127) C dX5_partPool_127 rfl ?_
        refine x_lsub (pc := 129) C dX5_partPool_129 ?_
        obtain ⟨k, h⟩ := chk_s h
        obtain ⟨σ3, e1, h⟩ := wlet_s h
        refine x_putJ (pc := 130) C pX5_57 rfl k dX5_partPool_130 (x_eq e1 ?_)
        exact x_sub (tX5_partPool_133 C hr ih h) (xLe_s (xLe_s (xLe_s (xLe_n (xLe_s (xLe_n (xLe_s (xLe_n (xLe_n xLe_0)))))))))
def DX5_partPool_44 (l0 : Nat) (l1 : Nat) (l2 : Int64) (σ : Sg) : Option (Unit × Sg) :=
  if (0 : Int64) < l2 then
    chk (ckO σ 4 l0) <|
    chk (ckO σ 4 l0) <|
    DX5_partPool_63 FU l0 l1 l2 (gJ σ l0 15) (gI σ l0 3) σ
  else
    some ((), σ)
theorem tX5_partPool_44 {r : Unit} {σ' : Sg} (C : Cx E p s m args meth c RX5 cX5_partPool 9) (hr : meth.sig.returnType = none) {l0 : Nat} {l1 : Nat} {l2 : Int64} {σ : Sg} (h : DX5_partPool_44 l0 l1 l2 σ = some (r, σ')) : Y E p l e (rmA 1 0 0) s m args below meth c none σ' 0 0 9 0 0 σ 44 [some (.ref (ad E l0)), some (.ref (ad E l1)), some (.long l2), none, none, none, none, none, none] [] := by
  unfold DX5_partPool_44 at h
  refine x_lload_n (pc := 44) C dX5_partPool_44 rfl rfl ?_
  refine x_lconst (v := 0) (pc := 45) C dX5_partPool_45 (by decide) ?_
  refine x_lcmp (pc := 46) C dX5_partPool_46 ?_
  refine x_lif_gt (pc := 47) (tgt := 51) C dX5_partPool_47 (by decide) (fun q => ?_) (fun q => ?_)
  · rw [if_pos q] at h
    refine x_aload_n (pc := 51) C dX5_partPool_51 rfl rfl ?_
    obtain ⟨k, h⟩ := chk_s h
    refine x_getJ (pc := 52) C fX5_57 rfl k dX5_partPool_52 ?_
    refine x_lstore (M := [some _, some _, some _, none, some _, none, none, none, none]) (pc := 55) C dX5_partPool_55 (by decide) rfl ?_
    refine x_aload_n (pc := 57) C dX5_partPool_57 rfl rfl ?_
    obtain ⟨k, h⟩ := chk_s h
    refine x_getI (pc := 58) C fX5_18 rfl k dX5_partPool_58 ?_
    refine x_istore (M := [some _, some _, some _, none, some _, none, some _, none, none]) (pc := 61) C dX5_partPool_61 (by decide) rfl ?_
    exact x_sub (tX5_partPool_63 C hr FU _ _ _ _ _ _ h) (xLe_s (xLe_s (xLe_s (xLe_n (xLe_s (xLe_n (xLe_s (xLe_n (xLe_n xLe_0)))))))))
  · rw [if_neg q] at h
    cases h
    exact x_vret C hr dX5_partPool_50
def DX5_partPool_8 : Nat → Nat → Nat → Int64 → Int32 → Sg → Option (Unit × Sg)
  | 0, _, _, _, _, _ => none
  | n + 1, l0, l1, l2, l4, σ =>
    chk (ckO σ 4 l0) <|
    if (gI σ l0 2) ≤ l4 then
      DX5_partPool_44 l0 l1 l2 σ
    else
      chk (ckO σ 4 l0) <|
      chk (ckV (gR σ l0 14)) <|
      chk (ckZ σ (gR σ l0 14) l4) <|
      if (aI σ (gR σ l0 14) l4.toNatClampNeg) = 0 then
        DX5_partPool_36 (DX5_partPool_8 n) l0 l1 l4 l2 (0 : Int64) σ
      else
        chk (ckJ σ l1 l4) <|
        DX5_partPool_36 (DX5_partPool_8 n) l0 l1 l4 l2 (aJ σ l1 l4.toNatClampNeg) σ
theorem tX5_partPool_8 {r : Unit} {σ' : Sg} (C : Cx E p s m args meth c RX5 cX5_partPool 9) (hr : meth.sig.returnType = none) : ∀ (n : Nat) (l0 : Nat) (l1 : Nat) (l2 : Int64) (l4 : Int32) (σ : Sg) (h : DX5_partPool_8 n l0 l1 l2 l4 σ = some (r, σ')), Y E p l e (rmA 1 0 0) s m args below meth c none σ' 0 0 9 0 0 σ 8 [some (.ref (ad E l0)), some (.ref (ad E l1)), some (.long l2), none, some (.int l4), none, none, none, none] [] := by
  intro n
  induction n with
  | zero => intro l0 l1 l2 l4 σ h; cases h
  | succ n ih =>
    intro l0 l1 l2 l4 σ h
    unfold DX5_partPool_8 at h
    refine x_iload (pc := 8) C dX5_partPool_8 rfl ?_
    refine x_aload_n (pc := 10) C dX5_partPool_10 rfl rfl ?_
    obtain ⟨k, h⟩ := chk_s h
    refine x_getI (pc := 11) C fX5_15 rfl k dX5_partPool_11 ?_
    refine x_icmp_ge (pc := 14) (tgt := 44) C dX5_partPool_14 (by decide) (fun q => ?_) (fun q => ?_)
    · rw [if_pos q] at h
      exact x_sub (tX5_partPool_44 C hr h) (xLe_s (xLe_s (xLe_s (xLe_n (xLe_n (xLe_n (xLe_n (xLe_n (xLe_n xLe_0)))))))))
    · rw [if_neg q] at h
      refine x_lload_n (pc := 17) C dX5_partPool_17 rfl rfl ?_
      refine x_aload_n (pc := 18) C dX5_partPool_18 rfl rfl ?_
      obtain ⟨k, h⟩ := chk_s h
      have k2 := k
      obtain ⟨k, h⟩ := chk_s h
      refine x_getR (pc := 19) C fX5_53 rfl k2 k dX5_partPool_19 ?_
      refine x_iload (pc := 22) C dX5_partPool_22 rfl ?_
      obtain ⟨k, h⟩ := chk_s h
      refine x_zald (pc := 24) C k dX5_partPool_24 ?_
      refine x_if_eq (pc := 25) (tgt := 35) C dX5_partPool_25 (by decide) (fun q => ?_) (fun q => ?_)
      · rw [if_pos q] at h
        refine x_lconst (v := 0) (pc := 35) C dX5_partPool_35 (by decide) ?_
        exact x_sub (tX5_partPool_36 C hr ih h) (xLe_s (xLe_s (xLe_n (xLe_n (xLe_s (xLe_n (xLe_n (xLe_n (xLe_n xLe_0)))))))))
      · rw [if_neg q] at h
        refine x_aload_n (pc := 28) C dX5_partPool_28 rfl rfl ?_
        refine x_iload (pc := 29) C dX5_partPool_29 rfl ?_
        obtain ⟨k, h⟩ := chk_s h
        refine x_lald (pc := 31) C k dX5_partPool_31 ?_
        refine x_goto (tgt := 36) (pc := 32) C dX5_partPool_32 (by decide) ?_
        exact x_sub (tX5_partPool_36 C hr ih h) (xLe_s (xLe_s (xLe_n (xLe_n (xLe_s (xLe_n (xLe_n (xLe_n (xLe_n xLe_0)))))))))
def DX5_partPool (l0 : Nat) (l1 : Nat) (σ : Sg) : Option (Unit × Sg) :=
  chk (ckO σ 4 l0) <|
  DX5_partPool_8 FU l0 l1 (0 : Int64) (gI σ l0 3) σ
theorem mX5_partPool (E : Ev) (l : Launch) {l0 : Nat} {l1 : Nat} {σ : Sg} {r : Unit} {σ' : Sg} (h : DX5_partPool l0 l1 σ = some (r, σ')) : Mt E l yX5_partPool cX5_partPool 9 none 1 0 0 [.ref (ad E l0), .ref (ad E l1)] σ none σ' := by
  refine Mt.ofX (by decide) (Nat.le_of_ble_eq_true rfl) (L0 := [some (.ref (ad E l0)), some (.ref (ad E l1)), none, none, none, none, none, none, none]) (xEntN_ok [.ref (ad E l0), .ref (ad E l1)] 9) (fun p e s m args below meth c C hr hn => ?_)
  unfold DX5_partPool at h
  refine x_lconst (v := 0) (pc := 0) C dX5_partPool_0 (by decide) ?_
  refine x_lstore_n (M := [some _, some _, some _, none, none, none, none, none, none]) (pc := 1) C dX5_partPool_1 rfl (by decide) rfl ?_
  refine x_aload_n (pc := 2) C dX5_partPool_2 rfl rfl ?_
  obtain ⟨k, h⟩ := chk_s h
  refine x_getI (pc := 3) C fX5_18 rfl k dX5_partPool_3 ?_
  refine x_istore (M := [some _, some _, some _, none, some _, none, none, none, none]) (pc := 6) C dX5_partPool_6 (by decide) rfl ?_
  exact x_sub (tX5_partPool_8 C hr FU _ _ _ _ _ h) (xLe_s (xLe_s (xLe_s (xLe_n (xLe_s (xLe_n (xLe_n (xLe_n (xLe_n xLe_0)))))))))
def DX5_giveValues_45 (K15 : Nat → Int32 → Sg → Option (Unit × Sg)) (l0 : Nat) (l3 : Int32) (σ : Sg) : Option (Unit × Sg) :=
  K15 l0 (l3 + (1 : Int32)) σ
theorem tX5_giveValues_45 {r : Unit} {σ' : Sg} (C : Cx E p s m args meth c RX5 cX5_giveValues 4) (hr : meth.sig.returnType = none) {K15 : Nat → Int32 → Sg → Option (Unit × Sg)} (hK15 : ∀ (l0 : Nat) (l3 : Int32) (σ : Sg), K15 l0 l3 σ = some (r, σ') → Y E p l e (rmA 1 0 0) s m args below meth c none σ' 0 0 4 0 0 σ 15 [some (.ref (ad E l0)), none, none, some (.int l3)] []) {l0 : Nat} {l3 : Int32} {σ : Sg} (h : DX5_giveValues_45 K15 l0 l3 σ = some (r, σ')) : Y E p l e (rmA 1 0 0) s m args below meth c none σ' 0 0 4 0 0 σ 45 [some (.ref (ad E l0)), none, none, some (.int l3)] [] := by
  unfold DX5_giveValues_45 at h
  refine x_iinc (v := 1) (M := [some _, none, none, some _]) (pc := 45) C dX5_giveValues_45 rfl (by decide) (by decide) rfl ?_
  refine x_goto (tgt := 15) (pc := 48) C dX5_giveValues_48 (by decide) ?_
  exact x_sub (hK15 _ _ _ h) (xLe_s (xLe_n (xLe_n (xLe_s xLe_0))))
def DX5_giveValues_51 (σ : Sg) : Option (Unit × Sg) :=
  some ((), σ)
theorem tX5_giveValues_51 {r : Unit} {σ' : Sg} (C : Cx E p s m args meth c RX5 cX5_giveValues 4) (hr : meth.sig.returnType = none) {σ : Sg} (h : DX5_giveValues_51  σ = some (r, σ')) : Y E p l e (rmA 1 0 0) s m args below meth c none σ' 0 0 4 0 0 σ 51 [none, none, none, none] [] := by
  unfold DX5_giveValues_51 at h
  cases h
  exact x_vret C hr dX5_giveValues_51
def DX5_giveValues_15 : Nat → Nat → Int32 → Sg → Option (Unit × Sg)
  | 0, _, _, _ => none
  | n + 1, l0, l3, σ =>
    chk (ckO σ 4 l0) <|
    if (gI σ l0 2) ≤ l3 then
      DX5_giveValues_51 σ
    else
      chk (ckO σ 4 l0) <|
      chk (ckV (gR σ l0 14)) <|
      chk (ckZ σ (gR σ l0 14) l3) <|
      if (aI σ (gR σ l0 14) l3.toNatClampNeg) = 0 then
        DX5_giveValues_45 (DX5_giveValues_15 n) l0 l3 σ
      else
        chk (ckO σ 4 l0) <|
        chk (ckV (gR σ l0 12)) <|
        chk (ckO σ 4 l0) <|
        chk (ckV (gR σ l0 10)) <|
        chk (ckJ σ (gR σ l0 10) l3) <|
        chk (ckI σ (gR σ l0 12) l3) <|
        wlet (wI σ (gR σ l0 12) l3.toNatClampNeg ((aJ σ (gR σ l0 10) l3.toNatClampNeg).toInt32)) fun σ1 =>
        DX5_giveValues_45 (DX5_giveValues_15 n) l0 l3 σ1
theorem tX5_giveValues_15 {r : Unit} {σ' : Sg} (C : Cx E p s m args meth c RX5 cX5_giveValues 4) (hr : meth.sig.returnType = none) : ∀ (n : Nat) (l0 : Nat) (l3 : Int32) (σ : Sg) (h : DX5_giveValues_15 n l0 l3 σ = some (r, σ')), Y E p l e (rmA 1 0 0) s m args below meth c none σ' 0 0 4 0 0 σ 15 [some (.ref (ad E l0)), none, none, some (.int l3)] [] := by
  intro n
  induction n with
  | zero => intro l0 l3 σ h; cases h
  | succ n ih =>
    intro l0 l3 σ h
    unfold DX5_giveValues_15 at h
    refine x_iload_n (pc := 15) C dX5_giveValues_15 rfl rfl ?_
    refine x_aload_n (pc := 16) C dX5_giveValues_16 rfl rfl ?_
    obtain ⟨k, h⟩ := chk_s h
    refine x_getI (pc := 17) C fX5_15 rfl k dX5_giveValues_17 ?_
    refine x_icmp_ge (pc := 20) (tgt := 51) C dX5_giveValues_20 (by decide) (fun q => ?_) (fun q => ?_)
    · rw [if_pos q] at h
      exact x_sub (tX5_giveValues_51 C hr h) (xLe_n (xLe_n (xLe_n (xLe_n xLe_0))))
    · rw [if_neg q] at h
      refine x_aload_n (pc := 23) C dX5_giveValues_23 rfl rfl ?_
      obtain ⟨k, h⟩ := chk_s h
      have k2 := k
      obtain ⟨k, h⟩ := chk_s h
      refine x_getR (pc := 24) C fX5_53 rfl k2 k dX5_giveValues_24 ?_
      refine x_iload_n (pc := 27) C dX5_giveValues_27 rfl rfl ?_
      obtain ⟨k, h⟩ := chk_s h
      refine x_zald (pc := 28) C k dX5_giveValues_28 ?_
      refine x_if_eq (pc := 29) (tgt := 45) C dX5_giveValues_29 (by decide) (fun q => ?_) (fun q => ?_)
      · rw [if_pos q] at h
        exact x_sub (tX5_giveValues_45 C hr ih h) (xLe_s (xLe_n (xLe_n (xLe_s xLe_0))))
      · rw [if_neg q] at h
        refine x_aload_n (pc := 32) C dX5_giveValues_32 rfl rfl ?_
        obtain ⟨k, h⟩ := chk_s h
        have k2 := k
        obtain ⟨k, h⟩ := chk_s h
        refine x_getR (pc := 33) C fX5_47 rfl k2 k dX5_giveValues_33 ?_
        refine x_iload_n (pc := 36) C dX5_giveValues_36 rfl rfl ?_
        refine x_aload_n (pc := 37) C dX5_giveValues_37 rfl rfl ?_
        obtain ⟨k, h⟩ := chk_s h
        have k2 := k
        obtain ⟨k, h⟩ := chk_s h
        refine x_getR (pc := 38) C fX5_40 rfl k2 k dX5_giveValues_38 ?_
        refine x_iload_n (pc := 41) C dX5_giveValues_41 rfl rfl ?_
        obtain ⟨k, h⟩ := chk_s h
        refine x_lald (pc := 42) C k dX5_giveValues_42 ?_
        refine x_l2i (pc := 43) C dX5_giveValues_43 ?_
        obtain ⟨k, h⟩ := chk_s h
        obtain ⟨σ1, e1, h⟩ := wlet_s h
        refine x_iast (pc := 44) C k dX5_giveValues_44 (x_eq e1 ?_)
        exact x_sub (tX5_giveValues_45 C hr ih h) (xLe_s (xLe_n (xLe_n (xLe_s xLe_0))))
def DX5_giveValues (l0 : Nat) (l1 : Int64) (σ : Sg) : Option (Unit × Sg) :=
  chk (ckO σ 4 l0) <|
  chk (ckO σ 4 l0) <|
  wlet (pJ σ l0 15 ((gJ σ l0 15) - l1)) fun σ1 =>
  chk (ckO σ1 4 l0) <|
  DX5_giveValues_15 FU l0 (gI σ1 l0 3) σ1
theorem mX5_giveValues (E : Ev) (l : Launch) {l0 : Nat} {l1 : Int64} {σ : Sg} {r : Unit} {σ' : Sg} (h : DX5_giveValues l0 l1 σ = some (r, σ')) : Mt E l yX5_giveValues cX5_giveValues 4 none 1 0 0 [.ref (ad E l0), .long l1] σ none σ' := by
  refine Mt.ofX (by decide) (Nat.le_of_ble_eq_true rfl) (L0 := [some (.ref (ad E l0)), some (.long l1), none, none]) (xEntN_ok [.ref (ad E l0), .long l1] 4) (fun p e s m args below meth c C hr hn => ?_)
  unfold DX5_giveValues at h
  refine x_aload_n (pc := 0) C dX5_giveValues_0 rfl rfl ?_
  refine x_dup (pc := 1) C dX5_giveValues_1 rfl ?_
  obtain ⟨k, h⟩ := chk_s h
  refine x_getJ (pc := 2) C fX5_57 rfl k dX5_giveValues_2 ?_
  refine x_lload_n (pc := 5) C dX5_giveValues_5 rfl rfl ?_
  refine x_lsub (pc := 6) C dX5_giveValues_6 ?_
  obtain ⟨k, h⟩ := chk_s h
  obtain ⟨σ1, e1, h⟩ := wlet_s h
  refine x_putJ (pc := 7) C pX5_57 rfl k dX5_giveValues_7 (x_eq e1 ?_)
  refine x_aload_n (pc := 10) C dX5_giveValues_10 rfl rfl ?_
  obtain ⟨k, h⟩ := chk_s h
  refine x_getI (pc := 11) C fX5_18 rfl k dX5_giveValues_11 ?_
  refine x_istore_n (M := [some _, some _, none, some _]) (pc := 14) C dX5_giveValues_14 rfl (by decide) rfl ?_
  exact x_sub (tX5_giveValues_15 C hr FU _ _ _ h) (xLe_s (xLe_n (xLe_n (xLe_s xLe_0))))
def DX5_settleFixed_92 (K10 : Nat → Int64 → Int32 → Int32 → Sg → Option (Int32 × Sg)) (l0 : Nat) (l1 : Int64) (l3 : Int32) (l4 : Int32) (σ : Sg) : Option (Int32 × Sg) :=
  K10 l0 l1 l3 (l4 + (1 : Int32)) σ
theorem tX5_settleFixed_92 {r : Int32} {σ' : Sg} (C : Cx E p s m args meth c RX5 cX5_settleFixed 5) (hr : meth.sig.returnType = (some .boolean)) {K10 : Nat → Int64 → Int32 → Int32 → Sg → Option (Int32 × Sg)} (hK10 : ∀ (l0 : Nat) (l1 : Int64) (l3 : Int32) (l4 : Int32) (σ : Sg), K10 l0 l1 l3 l4 σ = some (r, σ') → Y E p l e (rmA 2 0 0) s m args below meth c (some (.int r)) σ' 0 0 5 0 0 σ 10 [some (.ref (ad E l0)), some (.long l1), none, some (.int l3), some (.int l4)] []) {l0 : Nat} {l1 : Int64} {l3 : Int32} {l4 : Int32} {σ : Sg} (h : DX5_settleFixed_92 K10 l0 l1 l3 l4 σ = some (r, σ')) : Y E p l e (rmA 2 0 0) s m args below meth c (some (.int r)) σ' 0 0 5 0 0 σ 92 [some (.ref (ad E l0)), some (.long l1), none, some (.int l3), some (.int l4)] [] := by
  unfold DX5_settleFixed_92 at h
  refine x_iinc (v := 1) (M := [some _, some _, none, some _, some _]) (pc := 92) C dX5_settleFixed_92 rfl (by decide) (by decide) rfl ?_
  refine x_goto (tgt := 10) (pc := 95) C dX5_settleFixed_95 (by decide) ?_
  exact x_sub (hK10 _ _ _ _ _ h) (xLe_s (xLe_s (xLe_n (xLe_s (xLe_s xLe_0)))))
def DX5_settleFixed_52 (K10 : Nat → Int64 → Int32 → Int32 → Sg → Option (Int32 × Sg)) (l0 : Nat) (l1 : Int64) (l3 : Int32) (l4 : Int32) (s0 : Nat) (s1 : Int32) (s2 : Int32) (σ : Sg) : Option (Int32 × Sg) :=
  chk (ckZ σ s0 s1) <|
  chk (ck01 s2) <|
  wlet (wI σ s0 s1.toNatClampNeg s2) fun σ1 =>
  chk (ckO σ1 4 l0) <|
  chk (ckV (gR σ1 l0 14)) <|
  chk (ckZ σ1 (gR σ1 l0 14) l4) <|
  if (aI σ1 (gR σ1 l0 14) l4.toNatClampNeg) = 0 then
    DX5_settleFixed_92 K10 l0 l1 (1 : Int32) l4 σ1
  else
    chk (ckO σ1 4 l0) <|
    chk (ckV (gR σ1 l0 9)) <|
    chk (ckO σ1 4 l0) <|
    chk (ckV (gR σ1 l0 8)) <|
    chk (ckI σ1 (gR σ1 l0 8) l4) <|
    chk (ckI σ1 (gR σ1 l0 9) l4) <|
    wlet (wI σ1 (gR σ1 l0 9) l4.toNatClampNeg (aI σ1 (gR σ1 l0 8) l4.toNatClampNeg)) fun σ2 =>
    chk (ckO σ2 4 l0) <|
    chk (ckV (gR σ2 l0 10)) <|
    chk (ckJ σ2 (gR σ2 l0 10) l4) <|
    DX5_settleFixed_92 K10 l0 (l1 + (aJ σ2 (gR σ2 l0 10) l4.toNatClampNeg)) l3 l4 σ2
theorem tX5_settleFixed_52 {r : Int32} {σ' : Sg} (C : Cx E p s m args meth c RX5 cX5_settleFixed 5) (hr : meth.sig.returnType = (some .boolean)) {K10 : Nat → Int64 → Int32 → Int32 → Sg → Option (Int32 × Sg)} (hK10 : ∀ (l0 : Nat) (l1 : Int64) (l3 : Int32) (l4 : Int32) (σ : Sg), K10 l0 l1 l3 l4 σ = some (r, σ') → Y E p l e (rmA 2 0 0) s m args below meth c (some (.int r)) σ' 0 0 5 0 0 σ 10 [some (.ref (ad E l0)), some (.long l1), none, some (.int l3), some (.int l4)] []) {l0 : Nat} {l1 : Int64} {l3 : Int32} {l4 : Int32} {s0 : Nat} {s1 : Int32} {s2 : Int32} {σ : Sg} (h : DX5_settleFixed_52 K10 l0 l1 l3 l4 s0 s1 s2 σ = some (r, σ')) : Y E p l e (rmA 2 0 0) s m args below meth c (some (.int r)) σ' 0 0 5 0 0 σ 52 [some (.ref (ad E l0)), some (.long l1), none, some (.int l3), some (.int l4)] [.int s2, .int s1, .ref (ad E s0)] := by
  unfold DX5_settleFixed_52 at h
  obtain ⟨k, h⟩ := chk_s h
  have k2 := k
  obtain ⟨k, h⟩ := chk_s h
  obtain ⟨σ1, e1, h⟩ := wlet_s h
  refine x_zast (pc := 52) C k2 k dX5_settleFixed_52 (x_eq e1 ?_)
  refine x_aload_n (pc := 53) C dX5_settleFixed_53 rfl rfl ?_
  obtain ⟨k, h⟩ := chk_s h
  have k2 := k
  obtain ⟨k, h⟩ := chk_s h
  refine x_getR (pc := 54) C fX5_53 rfl k2 k dX5_settleFixed_54 ?_
  refine x_iload (pc := 57) C dX5_settleFixed_57 rfl ?_
  obtain ⟨k, h⟩ := chk_s h
  refine x_zald (pc := 59) C k dX5_settleFixed_59 ?_
  refine x_if_eq (pc := 60) (tgt := 90) C dX5_settleFixed_60 (by decide) (fun q => ?_) (fun q => ?_)
  · rw [if_pos q] at h
    refine x_iconst (v := 1) (pc := 90) C dX5_settleFixed_90 (by decide) ?_
    refine x_istore_n (M := [some _, some _, none, some _, some _]) (pc := 91) C dX5_settleFixed_91 rfl (by decide) rfl ?_
    exact x_sub (tX5_settleFixed_92 C hr hK10 h) (xLe_s (xLe_s (xLe_n (xLe_s (xLe_s xLe_0)))))
  · rw [if_neg q] at h
    refine x_aload_n (pc := 63) C dX5_settleFixed_63 rfl rfl ?_
    obtain ⟨k, h⟩ := chk_s h
    have k2 := k
    obtain ⟨k, h⟩ := chk_s h
    refine x_getR (pc := 64) C fX5_37 rfl k2 k dX5_settleFixed_64 ?_
    refine x_iload (pc := 67) C dX5_settleFixed_67 rfl ?_
    refine x_aload_n (pc := 69) C dX5_settleFixed_69 rfl rfl ?_
    obtain ⟨k, h⟩ := chk_s h
    have k2 := k
    obtain ⟨k, h⟩ := chk_s h
    refine x_getR (pc := 70) C fX5_34 rfl k2 k dX5_settleFixed_70 ?_
    refine x_iload (pc := 73) C dX5_settleFixed_73 rfl ?_
    obtain ⟨k, h⟩ := chk_s h
    refine x_iald (pc := 75) C k dX5_settleFixed_75 ?_
    obtain ⟨k, h⟩ := chk_s h
    obtain ⟨σ2, e1, h⟩ := wlet_s h
    refine x_iast (pc := 76) C k dX5_settleFixed_76 (x_eq e1 ?_)
    refine x_lload_n (pc := 77) C dX5_settleFixed_77 rfl rfl ?_
    refine x_aload_n (pc := 78) C dX5_settleFixed_78 rfl rfl ?_
    obtain ⟨k, h⟩ := chk_s h
    have k2 := k
    obtain ⟨k, h⟩ := chk_s h
    refine x_getR (pc := 79) C fX5_40 rfl k2 k dX5_settleFixed_79 ?_
    refine x_iload (pc := 82) C dX5_settleFixed_82 rfl ?_
    obtain ⟨k, h⟩ := chk_s h
    refine x_lald (pc := 84) C k dX5_settleFixed_84 ?_
    refine x_ladd (pc := 85) C dX5_settleFixed_85 ?_
    refine x_lstore_n (M := [some _, some _, none, some _, some _]) (pc := 86) C dX5_settleFixed_86 rfl (by decide) rfl ?_
    refine x_goto (tgt := 92) (pc := 87) C dX5_settleFixed_87 (by decide) ?_
    exact x_sub (tX5_settleFixed_92 C hr hK10 h) (xLe_s (xLe_s (xLe_n (xLe_s (xLe_s xLe_0)))))
def DX5_settleFixed_47 (K10 : Nat → Int64 → Int32 → Int32 → Sg → Option (Int32 × Sg)) (l0 : Nat) (l1 : Int64) (l3 : Int32) (l4 : Int32) (s0 : Nat) (s1 : Int32) (σ : Sg) : Option (Int32 × Sg) :=
  DX5_settleFixed_52 K10 l0 l1 l3 l4 s0 s1 (1 : Int32) σ
theorem tX5_settleFixed_47 {r : Int32} {σ' : Sg} (C : Cx E p s m args meth c RX5 cX5_settleFixed 5) (hr : meth.sig.returnType = (some .boolean)) {K10 : Nat → Int64 → Int32 → Int32 → Sg → Option (Int32 × Sg)} (hK10 : ∀ (l0 : Nat) (l1 : Int64) (l3 : Int32) (l4 : Int32) (σ : Sg), K10 l0 l1 l3 l4 σ = some (r, σ') → Y E p l e (rmA 2 0 0) s m args below meth c (some (.int r)) σ' 0 0 5 0 0 σ 10 [some (.ref (ad E l0)), some (.long l1), none, some (.int l3), some (.int l4)] []) {l0 : Nat} {l1 : Int64} {l3 : Int32} {l4 : Int32} {s0 : Nat} {s1 : Int32} {σ : Sg} (h : DX5_settleFixed_47 K10 l0 l1 l3 l4 s0 s1 σ = some (r, σ')) : Y E p l e (rmA 2 0 0) s m args below meth c (some (.int r)) σ' 0 0 5 0 0 σ 47 [some (.ref (ad E l0)), some (.long l1), none, some (.int l3), some (.int l4)] [.int s1, .ref (ad E s0)] := by
  unfold DX5_settleFixed_47 at h
  refine x_iconst (v := 1) (pc := 47) C dX5_settleFixed_47 (by decide) ?_
  refine x_goto (tgt := 52) (pc := 48) C dX5_settleFixed_48 (by decide) ?_
  exact x_sub (tX5_settleFixed_52 C hr hK10 h) (xLe_s (xLe_s (xLe_n (xLe_s (xLe_s xLe_0)))))
def DX5_settleFixed_143 (s0 : Int32) (σ : Sg) : Option (Int32 × Sg) :=
  chk (ck01 s0) <|
  some (s0, σ)
theorem tX5_settleFixed_143 {r : Int32} {σ' : Sg} (C : Cx E p s m args meth c RX5 cX5_settleFixed 5) (hr : meth.sig.returnType = (some .boolean)) {s0 : Int32} {σ : Sg} (h : DX5_settleFixed_143 s0 σ = some (r, σ')) : Y E p l e (rmA 2 0 0) s m args below meth c (some (.int r)) σ' 0 0 5 0 0 σ 143 [none, none, none, none, none] [.int s0] := by
  unfold DX5_settleFixed_143 at h
  obtain ⟨kz, h⟩ := chk_s h
  cases h
  exact x_zret C hr (nar_01 kz) dX5_settleFixed_143
def DX5_settleFixed_134 (l3 : Int32) (σ : Sg) : Option (Int32 × Sg) :=
  if l3 = 0 then
    DX5_settleFixed_143 (1 : Int32) σ
  else
    DX5_settleFixed_143 (0 : Int32) σ
theorem tX5_settleFixed_134 {r : Int32} {σ' : Sg} (C : Cx E p s m args meth c RX5 cX5_settleFixed 5) (hr : meth.sig.returnType = (some .boolean)) {l3 : Int32} {σ : Sg} (h : DX5_settleFixed_134 l3 σ = some (r, σ')) : Y E p l e (rmA 2 0 0) s m args below meth c (some (.int r)) σ' 0 0 5 0 0 σ 134 [none, none, none, some (.int l3), none] [] := by
  unfold DX5_settleFixed_134 at h
  refine x_iload_n (pc := 134) C dX5_settleFixed_134 rfl rfl ?_
  refine x_if_ne (pc := 135) (tgt := 142) C dX5_settleFixed_135 (by decide) (fun q => ?_) (fun q => ?_)
  · rw [if_pos q] at h
    refine x_iconst (v := 1) (pc := 138) C dX5_settleFixed_138 (by decide) ?_
    refine x_goto (tgt := 143) (pc := 139) C dX5_settleFixed_139 (by decide) ?_
    exact x_sub (tX5_settleFixed_143 C hr h) (xLe_n (xLe_n (xLe_n (xLe_n (xLe_n xLe_0)))))
  · rw [if_neg q] at h
    refine x_iconst (v := 0) (pc := 142) C dX5_settleFixed_142 (by decide) ?_
    exact x_sub (tX5_settleFixed_143 C hr h) (xLe_n (xLe_n (xLe_n (xLe_n (xLe_n xLe_0)))))
def DX5_settleFixed_98 (l0 : Nat) (l1 : Int64) (l3 : Int32) (σ : Sg) : Option (Int32 × Sg) :=
  chk (ckO σ 4 l0) <|
  if l1 ≤ (gJ σ l0 15) then
    chk (ckO σ 4 l0) <|
    bnd (DX5_giveValues l0 l1 σ) fun _ σ1 =>
    if l3 = 0 then
      chk (ckO σ1 4 l0) <|
      chk (ckV (gR σ1 l0 11)) <|
      chk (ckO σ1 4 l0) <|
      bnd (DX5_partPool l0 (gR σ1 l0 11) σ1) fun _ σ2 =>
      DX5_settleFixed_134 l3 σ2
    else
      DX5_settleFixed_134 l3 σ1
  else
    chk (ckO σ 4 l0) <|
    chk (ckV (gR σ l0 10)) <|
    chk (ckO σ 4 l0) <|
    bnd (DX5_partPool l0 (gR σ l0 10) σ) fun _ σ3 =>
    chk (ck01 (1 : Int32)) <|
    some ((1 : Int32), σ3)
theorem tX5_settleFixed_98 {r : Int32} {σ' : Sg} (C : Cx E p s m args meth c RX5 cX5_settleFixed 5) (hr : meth.sig.returnType = (some .boolean)) {l0 : Nat} {l1 : Int64} {l3 : Int32} {σ : Sg} (h : DX5_settleFixed_98 l0 l1 l3 σ = some (r, σ')) : Y E p l e (rmA 2 0 0) s m args below meth c (some (.int r)) σ' 0 0 5 0 0 σ 98 [some (.ref (ad E l0)), some (.long l1), none, some (.int l3), none] [] := by
  unfold DX5_settleFixed_98 at h
  refine x_lload_n (pc := 98) C dX5_settleFixed_98 rfl rfl ?_
  refine x_aload_n (pc := 99) C dX5_settleFixed_99 rfl rfl ?_
  obtain ⟨k, h⟩ := chk_s h
  refine x_getJ (pc := 100) C fX5_57 rfl k dX5_settleFixed_100 ?_
  refine x_lcmp (pc := 103) C dX5_settleFixed_103 ?_
  refine x_lif_le (pc := 104) (tgt := 117) C dX5_settleFixed_104 (by decide) (fun q => ?_) (fun q => ?_)
  · rw [if_pos q] at h
    refine x_aload_n (pc := 117) C dX5_settleFixed_117 rfl rfl ?_
    refine x_lload_n (pc := 118) C dX5_settleFixed_118 rfl rfl ?_
    obtain ⟨k, h⟩ := chk_s h
    have k2 := k
    obtain ⟨u0, σ1, k, h⟩ := bnd_s h
    refine x_callV0 (pc := 119) C (mX5_giveValues E l k) cl4 k2 cX5_161 nX5_giveValues sX5_giveValues rfl rfl (Nat.le_of_ble_eq_true rfl) ⟨Nat.le_of_ble_eq_true rfl, Nat.le_of_ble_eq_true rfl, Nat.le_of_ble_eq_true rfl, Nat.le_of_ble_eq_true rfl⟩ dX5_settleFixed_119 ?_
    refine x_iload_n (pc := 122) C dX5_settleFixed_122 rfl rfl ?_
    refine x_if_ne (pc := 123) (tgt := 134) C dX5_settleFixed_123 (by decide) (fun q => ?_) (fun q => ?_)
    · rw [if_pos q] at h
      refine x_aload_n (pc := 126) C dX5_settleFixed_126 rfl rfl ?_
      refine x_aload_n (pc := 127) C dX5_settleFixed_127 rfl rfl ?_
      obtain ⟨k, h⟩ := chk_s h
      have k2 := k
      obtain ⟨k, h⟩ := chk_s h
      refine x_getR (pc := 128) C fX5_44 rfl k2 k dX5_settleFixed_128 ?_
      obtain ⟨k, h⟩ := chk_s h
      have k2 := k
      obtain ⟨u0, σ2, k, h⟩ := bnd_s h
      refine x_callV0 (pc := 131) C (mX5_partPool E l k) cl4 k2 cX5_157 nX5_partPool sX5_partPool rfl rfl (Nat.le_of_ble_eq_true rfl) ⟨Nat.le_of_ble_eq_true rfl, Nat.le_of_ble_eq_true rfl, Nat.le_of_ble_eq_true rfl, Nat.le_of_ble_eq_true rfl⟩ dX5_settleFixed_131 ?_
      exact x_sub (tX5_settleFixed_134 C hr h) (xLe_n (xLe_n (xLe_n (xLe_s (xLe_n xLe_0)))))
    · rw [if_neg q] at h
      exact x_sub (tX5_settleFixed_134 C hr h) (xLe_n (xLe_n (xLe_n (xLe_s (xLe_n xLe_0)))))
  · rw [if_neg q] at h
    refine x_aload_n (pc := 107) C dX5_settleFixed_107 rfl rfl ?_
    refine x_aload_n (pc := 108) C dX5_settleFixed_108 rfl rfl ?_
    obtain ⟨k, h⟩ := chk_s h
    have k2 := k
    obtain ⟨k, h⟩ := chk_s h
    refine x_getR (pc := 109) C fX5_40 rfl k2 k dX5_settleFixed_109 ?_
    obtain ⟨k, h⟩ := chk_s h
    have k2 := k
    obtain ⟨u0, σ3, k, h⟩ := bnd_s h
    refine x_callV0 (pc := 112) C (mX5_partPool E l k) cl4 k2 cX5_157 nX5_partPool sX5_partPool rfl rfl (Nat.le_of_ble_eq_true rfl) ⟨Nat.le_of_ble_eq_true rfl, Nat.le_of_ble_eq_true rfl, Nat.le_of_ble_eq_true rfl, Nat.le_of_ble_eq_true rfl⟩ dX5_settleFixed_112 ?_
    refine x_iconst (v := 1) (pc := 115) C dX5_settleFixed_115 (by decide) ?_
    obtain ⟨kz, h⟩ := chk_s h
    cases h
    exact x_zret C hr (nar_01 kz) dX5_settleFixed_116
def DX5_settleFixed_10 : Nat → Nat → Int64 → Int32 → Int32 → Sg → Option (Int32 × Sg)
  | 0, _, _, _, _, _ => none
  | n + 1, l0, l1, l3, l4, σ =>
    chk (ckO σ 4 l0) <|
    if (gI σ l0 2) ≤ l4 then
      DX5_settleFixed_98 l0 l1 l3 σ
    else
      chk (ckO σ 4 l0) <|
      chk (ckV (gR σ l0 14)) <|
      chk (ckO σ 4 l0) <|
      chk (ckV (gR σ l0 8)) <|
      chk (ckI σ (gR σ l0 8) l4) <|
      if (aI σ (gR σ l0 8) l4.toNatClampNeg) = (1 : Int32) then
        DX5_settleFixed_47 (DX5_settleFixed_10 n) l0 l1 l3 l4 (gR σ l0 14) l4 σ
      else
        chk (ckO σ 4 l0) <|
        chk (ckV (gR σ l0 8)) <|
        chk (ckI σ (gR σ l0 8) l4) <|
        if (aI σ (gR σ l0 8) l4.toNatClampNeg) = (2 : Int32) then
          DX5_settleFixed_47 (DX5_settleFixed_10 n) l0 l1 l3 l4 (gR σ l0 14) l4 σ
        else
          DX5_settleFixed_52 (DX5_settleFixed_10 n) l0 l1 l3 l4 (gR σ l0 14) l4 (0 : Int32) σ
theorem tX5_settleFixed_10 {r : Int32} {σ' : Sg} (C : Cx E p s m args meth c RX5 cX5_settleFixed 5) (hr : meth.sig.returnType = (some .boolean)) : ∀ (n : Nat) (l0 : Nat) (l1 : Int64) (l3 : Int32) (l4 : Int32) (σ : Sg) (h : DX5_settleFixed_10 n l0 l1 l3 l4 σ = some (r, σ')), Y E p l e (rmA 2 0 0) s m args below meth c (some (.int r)) σ' 0 0 5 0 0 σ 10 [some (.ref (ad E l0)), some (.long l1), none, some (.int l3), some (.int l4)] [] := by
  intro n
  induction n with
  | zero => intro l0 l1 l3 l4 σ h; cases h
  | succ n ih =>
    intro l0 l1 l3 l4 σ h
    unfold DX5_settleFixed_10 at h
    refine x_iload (pc := 10) C dX5_settleFixed_10 rfl ?_
    refine x_aload_n (pc := 12) C dX5_settleFixed_12 rfl rfl ?_
    obtain ⟨k, h⟩ := chk_s h
    refine x_getI (pc := 13) C fX5_15 rfl k dX5_settleFixed_13 ?_
    refine x_icmp_ge (pc := 16) (tgt := 98) C dX5_settleFixed_16 (by decide) (fun q => ?_) (fun q => ?_)
    · rw [if_pos q] at h
      exact x_sub (tX5_settleFixed_98 C hr h) (xLe_s (xLe_s (xLe_n (xLe_s (xLe_n xLe_0)))))
    · rw [if_neg q] at h
      refine x_aload_n (pc := 19) C dX5_settleFixed_19 rfl rfl ?_
      obtain ⟨k, h⟩ := chk_s h
      have k2 := k
      obtain ⟨k, h⟩ := chk_s h
      refine x_getR (pc := 20) C fX5_53 rfl k2 k dX5_settleFixed_20 ?_
      refine x_iload (pc := 23) C dX5_settleFixed_23 rfl ?_
      refine x_aload_n (pc := 25) C dX5_settleFixed_25 rfl rfl ?_
      obtain ⟨k, h⟩ := chk_s h
      have k2 := k
      obtain ⟨k, h⟩ := chk_s h
      refine x_getR (pc := 26) C fX5_34 rfl k2 k dX5_settleFixed_26 ?_
      refine x_iload (pc := 29) C dX5_settleFixed_29 rfl ?_
      obtain ⟨k, h⟩ := chk_s h
      refine x_iald (pc := 31) C k dX5_settleFixed_31 ?_
      refine x_iconst (v := 1) (pc := 32) C dX5_settleFixed_32 (by decide) ?_
      refine x_icmp_eq (pc := 33) (tgt := 47) C dX5_settleFixed_33 (by decide) (fun q => ?_) (fun q => ?_)
      · rw [if_pos q] at h
        exact x_sub (tX5_settleFixed_47 C hr ih h) (xLe_s (xLe_s (xLe_n (xLe_s (xLe_s xLe_0)))))
      · rw [if_neg q] at h
        refine x_aload_n (pc := 36) C dX5_settleFixed_36 rfl rfl ?_
        obtain ⟨k, h⟩ := chk_s h
        have k2 := k
        obtain ⟨k, h⟩ := chk_s h
        refine x_getR (pc := 37) C fX5_34 rfl k2 k dX5_settleFixed_37 ?_
        refine x_iload (pc := 40) C dX5_settleFixed_40 rfl ?_
        obtain ⟨k, h⟩ := chk_s h
        refine x_iald (pc := 42) C k dX5_settleFixed_42 ?_
        refine x_iconst (v := 2) (pc := 43) C dX5_settleFixed_43 (by decide) ?_
        refine x_icmp_ne (pc := 44) (tgt := 51) C dX5_settleFixed_44 (by decide) (fun q => ?_) (fun q => ?_)
        · rw [if_pos q] at h
          exact x_sub (tX5_settleFixed_47 C hr ih h) (xLe_s (xLe_s (xLe_n (xLe_s (xLe_s xLe_0)))))
        · rw [if_neg q] at h
          refine x_iconst (v := 0) (pc := 51) C dX5_settleFixed_51 (by decide) ?_
          exact x_sub (tX5_settleFixed_52 C hr ih h) (xLe_s (xLe_s (xLe_n (xLe_s (xLe_s xLe_0)))))
def DX5_settleFixed (l0 : Nat) (σ : Sg) : Option (Int32 × Sg) :=
  chk (ckO σ 4 l0) <|
  DX5_settleFixed_10 FU l0 (0 : Int64) (0 : Int32) (gI σ l0 3) σ
theorem mX5_settleFixed (E : Ev) (l : Launch) {l0 : Nat} {σ : Sg} {r : Int32} {σ' : Sg} (h : DX5_settleFixed l0 σ = some (r, σ')) : Mt E l yX5_settleFixed cX5_settleFixed 5 (some .boolean) 2 0 0 [.ref (ad E l0)] σ (some (.int r)) σ' := by
  refine Mt.ofX (by decide) (Nat.le_of_ble_eq_true rfl) (L0 := [some (.ref (ad E l0)), none, none, none, none]) (xEntN_ok [.ref (ad E l0)] 5) (fun p e s m args below meth c C hr hn => ?_)
  unfold DX5_settleFixed at h
  refine x_lconst (v := 0) (pc := 0) C dX5_settleFixed_0 (by decide) ?_
  refine x_lstore_n (M := [some _, some _, none, none, none]) (pc := 1) C dX5_settleFixed_1 rfl (by decide) rfl ?_
  refine x_iconst (v := 0) (pc := 2) C dX5_settleFixed_2 (by decide) ?_
  refine x_istore_n (M := [some _, some _, none, some _, none]) (pc := 3) C dX5_settleFixed_3 rfl (by decide) rfl ?_
  refine x_aload_n (pc := 4) C dX5_settleFixed_4 rfl rfl ?_
  obtain ⟨k, h⟩ := chk_s h
  refine x_getI (pc := 5) C fX5_18 rfl k dX5_settleFixed_5 ?_
  refine x_istore (M := [some _, some _, none, some _, some _]) (pc := 8) C dX5_settleFixed_8 (by decide) rfl ?_
  exact x_sub (tX5_settleFixed_10 C hr FU _ _ _ _ _ h) (xLe_s (xLe_s (xLe_n (xLe_s (xLe_s xLe_0)))))
def DX5_openFactors_35 (K7 : Nat → Int64 → Int32 → Sg → Option (Int64 × Sg)) (l0 : Nat) (l3 : Int32) (s0 : Int64) (s1 : Int64) (σ : Sg) : Option (Int64 × Sg) :=
  K7 l0 (s0 + s1) (l3 + (1 : Int32)) σ
theorem tX5_openFactors_35 {r : Int64} {σ' : Sg} (C : Cx E p s m args meth c RX5 cX5_openFactors 4) (hr : meth.sig.returnType = (some .long)) {K7 : Nat → Int64 → Int32 → Sg → Option (Int64 × Sg)} (hK7 : ∀ (l0 : Nat) (l1 : Int64) (l3 : Int32) (σ : Sg), K7 l0 l1 l3 σ = some (r, σ') → Y E p l e (rmA 1 0 0) s m args below meth c (some (.long r)) σ' 0 0 4 0 0 σ 7 [some (.ref (ad E l0)), some (.long l1), none, some (.int l3)] []) {l0 : Nat} {l3 : Int32} {s0 : Int64} {s1 : Int64} {σ : Sg} (h : DX5_openFactors_35 K7 l0 l3 s0 s1 σ = some (r, σ')) : Y E p l e (rmA 1 0 0) s m args below meth c (some (.long r)) σ' 0 0 4 0 0 σ 35 [some (.ref (ad E l0)), none, none, some (.int l3)] [.long s1, .long s0] := by
  unfold DX5_openFactors_35 at h
  refine x_ladd (pc := 35) C dX5_openFactors_35 ?_
  refine x_lstore_n (M := [some _, some _, none, some _]) (pc := 36) C dX5_openFactors_36 rfl (by decide) rfl ?_
  refine x_iinc (v := 1) (M := [some _, some _, none, some _]) (pc := 37) C dX5_openFactors_37 rfl (by decide) (by decide) rfl ?_
  refine x_goto (tgt := 7) (pc := 40) C dX5_openFactors_40 (by decide) ?_
  exact x_sub (hK7 _ _ _ _ h) (xLe_s (xLe_s (xLe_n (xLe_s xLe_0))))
def DX5_openFactors_43 (l1 : Int64) (σ : Sg) : Option (Int64 × Sg) :=
  some (l1, σ)
theorem tX5_openFactors_43 {r : Int64} {σ' : Sg} (C : Cx E p s m args meth c RX5 cX5_openFactors 4) (hr : meth.sig.returnType = (some .long)) {l1 : Int64} {σ : Sg} (h : DX5_openFactors_43 l1 σ = some (r, σ')) : Y E p l e (rmA 1 0 0) s m args below meth c (some (.long r)) σ' 0 0 4 0 0 σ 43 [none, some (.long l1), none, none] [] := by
  unfold DX5_openFactors_43 at h
  refine x_lload_n (pc := 43) C dX5_openFactors_43 rfl rfl ?_
  cases h
  exact x_lret C hr dX5_openFactors_44
def DX5_openFactors_7 : Nat → Nat → Int64 → Int32 → Sg → Option (Int64 × Sg)
  | 0, _, _, _, _ => none
  | n + 1, l0, l1, l3, σ =>
    chk (ckO σ 4 l0) <|
    if (gI σ l0 2) ≤ l3 then
      DX5_openFactors_43 l1 σ
    else
      chk (ckO σ 4 l0) <|
      chk (ckV (gR σ l0 9)) <|
      chk (ckI σ (gR σ l0 9) l3) <|
      if (aI σ (gR σ l0 9) l3.toNatClampNeg) = 0 then
        chk (ckO σ 4 l0) <|
        chk (ckV (gR σ l0 11)) <|
        chk (ckJ σ (gR σ l0 11) l3) <|
        DX5_openFactors_35 (DX5_openFactors_7 n) l0 l3 l1 (aJ σ (gR σ l0 11) l3.toNatClampNeg) σ
      else
        DX5_openFactors_35 (DX5_openFactors_7 n) l0 l3 l1 (0 : Int64) σ
theorem tX5_openFactors_7 {r : Int64} {σ' : Sg} (C : Cx E p s m args meth c RX5 cX5_openFactors 4) (hr : meth.sig.returnType = (some .long)) : ∀ (n : Nat) (l0 : Nat) (l1 : Int64) (l3 : Int32) (σ : Sg) (h : DX5_openFactors_7 n l0 l1 l3 σ = some (r, σ')), Y E p l e (rmA 1 0 0) s m args below meth c (some (.long r)) σ' 0 0 4 0 0 σ 7 [some (.ref (ad E l0)), some (.long l1), none, some (.int l3)] [] := by
  intro n
  induction n with
  | zero => intro l0 l1 l3 σ h; cases h
  | succ n ih =>
    intro l0 l1 l3 σ h
    unfold DX5_openFactors_7 at h
    refine x_iload_n (pc := 7) C dX5_openFactors_7 rfl rfl ?_
    refine x_aload_n (pc := 8) C dX5_openFactors_8 rfl rfl ?_
    obtain ⟨k, h⟩ := chk_s h
    refine x_getI (pc := 9) C fX5_15 rfl k dX5_openFactors_9 ?_
    refine x_icmp_ge (pc := 12) (tgt := 43) C dX5_openFactors_12 (by decide) (fun q => ?_) (fun q => ?_)
    · rw [if_pos q] at h
      exact x_sub (tX5_openFactors_43 C hr h) (xLe_n (xLe_s (xLe_n (xLe_n xLe_0))))
    · rw [if_neg q] at h
      refine x_lload_n (pc := 15) C dX5_openFactors_15 rfl rfl ?_
      refine x_aload_n (pc := 16) C dX5_openFactors_16 rfl rfl ?_
      obtain ⟨k, h⟩ := chk_s h
      have k2 := k
      obtain ⟨k, h⟩ := chk_s h
      refine x_getR (pc := 17) C fX5_37 rfl k2 k dX5_openFactors_17 ?_
      refine x_iload_n (pc := 20) C dX5_openFactors_20 rfl rfl ?_
      obtain ⟨k, h⟩ := chk_s h
      refine x_iald (pc := 21) C k dX5_openFactors_21 ?_
      refine x_if_ne (pc := 22) (tgt := 34) C dX5_openFactors_22 (by decide) (fun q => ?_) (fun q => ?_)
      · rw [if_pos q] at h
        refine x_aload_n (pc := 25) C dX5_openFactors_25 rfl rfl ?_
        obtain ⟨k, h⟩ := chk_s h
        have k2 := k
        obtain ⟨k, h⟩ := chk_s h
        refine x_getR (pc := 26) C fX5_44 rfl k2 k dX5_openFactors_26 ?_
        refine x_iload_n (pc := 29) C dX5_openFactors_29 rfl rfl ?_
        obtain ⟨k, h⟩ := chk_s h
        refine x_lald (pc := 30) C k dX5_openFactors_30 ?_
        refine x_goto (tgt := 35) (pc := 31) C dX5_openFactors_31 (by decide) ?_
        exact x_sub (tX5_openFactors_35 C hr ih h) (xLe_s (xLe_n (xLe_n (xLe_s xLe_0))))
      · rw [if_neg q] at h
        refine x_lconst (v := 0) (pc := 34) C dX5_openFactors_34 (by decide) ?_
        exact x_sub (tX5_openFactors_35 C hr ih h) (xLe_s (xLe_n (xLe_n (xLe_s xLe_0))))
def DX5_openFactors (l0 : Nat) (σ : Sg) : Option (Int64 × Sg) :=
  chk (ckO σ 4 l0) <|
  DX5_openFactors_7 FU l0 (0 : Int64) (gI σ l0 3) σ
theorem mX5_openFactors (E : Ev) (l : Launch) {l0 : Nat} {σ : Sg} {r : Int64} {σ' : Sg} (h : DX5_openFactors l0 σ = some (r, σ')) : Mt E l yX5_openFactors cX5_openFactors 4 (some .long) 1 0 0 [.ref (ad E l0)] σ (some (.long r)) σ' := by
  refine Mt.ofX (by decide) (Nat.le_of_ble_eq_true rfl) (L0 := [some (.ref (ad E l0)), none, none, none]) (xEntN_ok [.ref (ad E l0)] 4) (fun p e s m args below meth c C hr hn => ?_)
  unfold DX5_openFactors at h
  refine x_lconst (v := 0) (pc := 0) C dX5_openFactors_0 (by decide) ?_
  refine x_lstore_n (M := [some _, some _, none, none]) (pc := 1) C dX5_openFactors_1 rfl (by decide) rfl ?_
  refine x_aload_n (pc := 2) C dX5_openFactors_2 rfl rfl ?_
  obtain ⟨k, h⟩ := chk_s h
  refine x_getI (pc := 3) C fX5_18 rfl k dX5_openFactors_3 ?_
  refine x_istore_n (M := [some _, some _, none, some _]) (pc := 6) C dX5_openFactors_6 rfl (by decide) rfl ?_
  exact x_sub (tX5_openFactors_7 C hr FU _ _ _ _ h) (xLe_s (xLe_s (xLe_n (xLe_s xLe_0))))
def DX5_setBeyond_132 (K14 : Nat → Int32 → Int64 → Int64 → Int32 → Sg → Option (Int64 × Sg)) (l0 : Nat) (l1 : Int32) (l2 : Int64) (l4 : Int64) (l6 : Int32) (σ : Sg) : Option (Int64 × Sg) :=
  K14 l0 l1 l2 l4 (l6 + (1 : Int32)) σ
theorem tX5_setBeyond_132 {r : Int64} {σ' : Sg} (C : Cx E p s m args meth c RX5 cX5_setBeyond 9) (hr : meth.sig.returnType = (some .long)) {K14 : Nat → Int32 → Int64 → Int64 → Int32 → Sg → Option (Int64 × Sg)} (hK14 : ∀ (l0 : Nat) (l1 : Int32) (l2 : Int64) (l4 : Int64) (l6 : Int32) (σ : Sg), K14 l0 l1 l2 l4 l6 σ = some (r, σ') → Y E p l e (rmA 2 0 0) s m args below meth c (some (.long r)) σ' 0 0 9 0 0 σ 14 [some (.ref (ad E l0)), some (.int l1), some (.long l2), none, some (.long l4), none, some (.int l6), none, none] []) {l0 : Nat} {l1 : Int32} {l2 : Int64} {l4 : Int64} {l6 : Int32} {σ : Sg} (h : DX5_setBeyond_132 K14 l0 l1 l2 l4 l6 σ = some (r, σ')) : Y E p l e (rmA 2 0 0) s m args below meth c (some (.long r)) σ' 0 0 9 0 0 σ 132 [some (.ref (ad E l0)), some (.int l1), some (.long l2), none, some (.long l4), none, some (.int l6), none, none] [] := by
  unfold DX5_setBeyond_132 at h
  refine x_iinc (v := 1) (M := [some _, some _, some _, none, some _, none, some _, none, none]) (pc := 132) C dX5_setBeyond_132 rfl (by decide) (by decide) rfl ?_
  refine x_goto (tgt := 14) (pc := 135) C dX5_setBeyond_135 (by decide) ?_
  exact x_sub (hK14 _ _ _ _ _ _ h) (xLe_s (xLe_s (xLe_s (xLe_n (xLe_s (xLe_n (xLe_s (xLe_n (xLe_n xLe_0)))))))))
def DX5_setBeyond_101 (K14 : Nat → Int32 → Int64 → Int64 → Int32 → Sg → Option (Int64 × Sg)) (l0 : Nat) (l1 : Int32) (l2 : Int64) (l4 : Int64) (l6 : Int32) (s0 : Nat) (s1 : Int32) (s2 : Int32) (σ : Sg) : Option (Int64 × Sg) :=
  chk (ckZ σ s0 s1) <|
  chk (ck01 s2) <|
  wlet (wI σ s0 s1.toNatClampNeg s2) fun σ1 =>
  chk (ckO σ1 4 l0) <|
  chk (ckV (gR σ1 l0 14)) <|
  chk (ckZ σ1 (gR σ1 l0 14) l6) <|
  if (aI σ1 (gR σ1 l0 14) l6.toNatClampNeg) = 0 then
    DX5_setBeyond_132 K14 l0 l1 l2 l4 l6 σ1
  else
    chk (ckO σ1 4 l0) <|
    chk (ckV (gR σ1 l0 9)) <|
    chk (ckI σ1 (gR σ1 l0 9) l6) <|
    wlet (wI σ1 (gR σ1 l0 9) l6.toNatClampNeg l1) fun σ2 =>
    chk (ckO σ2 4 l0) <|
    chk (ckV (gR σ2 l0 10)) <|
    chk (ckJ σ2 (gR σ2 l0 10) l6) <|
    DX5_setBeyond_132 K14 l0 l1 l2 (l4 + (aJ σ2 (gR σ2 l0 10) l6.toNatClampNeg)) l6 σ2
theorem tX5_setBeyond_101 {r : Int64} {σ' : Sg} (C : Cx E p s m args meth c RX5 cX5_setBeyond 9) (hr : meth.sig.returnType = (some .long)) {K14 : Nat → Int32 → Int64 → Int64 → Int32 → Sg → Option (Int64 × Sg)} (hK14 : ∀ (l0 : Nat) (l1 : Int32) (l2 : Int64) (l4 : Int64) (l6 : Int32) (σ : Sg), K14 l0 l1 l2 l4 l6 σ = some (r, σ') → Y E p l e (rmA 2 0 0) s m args below meth c (some (.long r)) σ' 0 0 9 0 0 σ 14 [some (.ref (ad E l0)), some (.int l1), some (.long l2), none, some (.long l4), none, some (.int l6), none, none] []) {l0 : Nat} {l1 : Int32} {l2 : Int64} {l4 : Int64} {l6 : Int32} {s0 : Nat} {s1 : Int32} {s2 : Int32} {σ : Sg} (h : DX5_setBeyond_101 K14 l0 l1 l2 l4 l6 s0 s1 s2 σ = some (r, σ')) : Y E p l e (rmA 2 0 0) s m args below meth c (some (.long r)) σ' 0 0 9 0 0 σ 101 [some (.ref (ad E l0)), some (.int l1), some (.long l2), none, some (.long l4), none, some (.int l6), none, none] [.int s2, .int s1, .ref (ad E s0)] := by
  unfold DX5_setBeyond_101 at h
  obtain ⟨k, h⟩ := chk_s h
  have k2 := k
  obtain ⟨k, h⟩ := chk_s h
  obtain ⟨σ1, e1, h⟩ := wlet_s h
  refine x_zast (pc := 101) C k2 k dX5_setBeyond_101 (x_eq e1 ?_)
  refine x_aload_n (pc := 102) C dX5_setBeyond_102 rfl rfl ?_
  obtain ⟨k, h⟩ := chk_s h
  have k2 := k
  obtain ⟨k, h⟩ := chk_s h
  refine x_getR (pc := 103) C fX5_53 rfl k2 k dX5_setBeyond_103 ?_
  refine x_iload (pc := 106) C dX5_setBeyond_106 rfl ?_
  obtain ⟨k, h⟩ := chk_s h
  refine x_zald (pc := 108) C k dX5_setBeyond_108 ?_
  refine x_if_eq (pc := 109) (tgt := 132) C dX5_setBeyond_109 (by decide) (fun q => ?_) (fun q => ?_)
  · rw [if_pos q] at h
    exact x_sub (tX5_setBeyond_132 C hr hK14 h) (xLe_s (xLe_s (xLe_s (xLe_n (xLe_s (xLe_n (xLe_s (xLe_n (xLe_n xLe_0)))))))))
  · rw [if_neg q] at h
    refine x_aload_n (pc := 112) C dX5_setBeyond_112 rfl rfl ?_
    obtain ⟨k, h⟩ := chk_s h
    have k2 := k
    obtain ⟨k, h⟩ := chk_s h
    refine x_getR (pc := 113) C fX5_37 rfl k2 k dX5_setBeyond_113 ?_
    refine x_iload (pc := 116) C dX5_setBeyond_116 rfl ?_
    refine x_iload_n (pc := 118) C dX5_setBeyond_118 rfl rfl ?_
    obtain ⟨k, h⟩ := chk_s h
    obtain ⟨σ2, e1, h⟩ := wlet_s h
    refine x_iast (pc := 119) C k dX5_setBeyond_119 (x_eq e1 ?_)
    refine x_lload (pc := 120) C dX5_setBeyond_120 rfl ?_
    refine x_aload_n (pc := 122) C dX5_setBeyond_122 rfl rfl ?_
    obtain ⟨k, h⟩ := chk_s h
    have k2 := k
    obtain ⟨k, h⟩ := chk_s h
    refine x_getR (pc := 123) C fX5_40 rfl k2 k dX5_setBeyond_123 ?_
    refine x_iload (pc := 126) C dX5_setBeyond_126 rfl ?_
    obtain ⟨k, h⟩ := chk_s h
    refine x_lald (pc := 128) C k dX5_setBeyond_128 ?_
    refine x_ladd (pc := 129) C dX5_setBeyond_129 ?_
    refine x_lstore (M := [some _, some _, some _, none, some _, none, some _, none, none]) (pc := 130) C dX5_setBeyond_130 (by decide) rfl ?_
    exact x_sub (tX5_setBeyond_132 C hr hK14 h) (xLe_s (xLe_s (xLe_s (xLe_n (xLe_s (xLe_n (xLe_s (xLe_n (xLe_n xLe_0)))))))))
def DX5_setBeyond_96 (K14 : Nat → Int32 → Int64 → Int64 → Int32 → Sg → Option (Int64 × Sg)) (l0 : Nat) (l1 : Int32) (l2 : Int64) (l4 : Int64) (l6 : Int32) (s0 : Nat) (s1 : Int32) (σ : Sg) : Option (Int64 × Sg) :=
  DX5_setBeyond_101 K14 l0 l1 l2 l4 l6 s0 s1 (1 : Int32) σ
theorem tX5_setBeyond_96 {r : Int64} {σ' : Sg} (C : Cx E p s m args meth c RX5 cX5_setBeyond 9) (hr : meth.sig.returnType = (some .long)) {K14 : Nat → Int32 → Int64 → Int64 → Int32 → Sg → Option (Int64 × Sg)} (hK14 : ∀ (l0 : Nat) (l1 : Int32) (l2 : Int64) (l4 : Int64) (l6 : Int32) (σ : Sg), K14 l0 l1 l2 l4 l6 σ = some (r, σ') → Y E p l e (rmA 2 0 0) s m args below meth c (some (.long r)) σ' 0 0 9 0 0 σ 14 [some (.ref (ad E l0)), some (.int l1), some (.long l2), none, some (.long l4), none, some (.int l6), none, none] []) {l0 : Nat} {l1 : Int32} {l2 : Int64} {l4 : Int64} {l6 : Int32} {s0 : Nat} {s1 : Int32} {σ : Sg} (h : DX5_setBeyond_96 K14 l0 l1 l2 l4 l6 s0 s1 σ = some (r, σ')) : Y E p l e (rmA 2 0 0) s m args below meth c (some (.long r)) σ' 0 0 9 0 0 σ 96 [some (.ref (ad E l0)), some (.int l1), some (.long l2), none, some (.long l4), none, some (.int l6), none, none] [.int s1, .ref (ad E s0)] := by
  unfold DX5_setBeyond_96 at h
  refine x_iconst (v := 1) (pc := 96) C dX5_setBeyond_96 (by decide) ?_
  refine x_goto (tgt := 101) (pc := 97) C dX5_setBeyond_97 (by decide) ?_
  exact x_sub (tX5_setBeyond_101 C hr hK14 h) (xLe_s (xLe_s (xLe_s (xLe_n (xLe_s (xLe_n (xLe_s (xLe_n (xLe_n xLe_0)))))))))
def DX5_setBeyond_100 (K14 : Nat → Int32 → Int64 → Int64 → Int32 → Sg → Option (Int64 × Sg)) (l0 : Nat) (l1 : Int32) (l2 : Int64) (l4 : Int64) (l6 : Int32) (s0 : Nat) (s1 : Int32) (σ : Sg) : Option (Int64 × Sg) :=
  DX5_setBeyond_101 K14 l0 l1 l2 l4 l6 s0 s1 (0 : Int32) σ
theorem tX5_setBeyond_100 {r : Int64} {σ' : Sg} (C : Cx E p s m args meth c RX5 cX5_setBeyond 9) (hr : meth.sig.returnType = (some .long)) {K14 : Nat → Int32 → Int64 → Int64 → Int32 → Sg → Option (Int64 × Sg)} (hK14 : ∀ (l0 : Nat) (l1 : Int32) (l2 : Int64) (l4 : Int64) (l6 : Int32) (σ : Sg), K14 l0 l1 l2 l4 l6 σ = some (r, σ') → Y E p l e (rmA 2 0 0) s m args below meth c (some (.long r)) σ' 0 0 9 0 0 σ 14 [some (.ref (ad E l0)), some (.int l1), some (.long l2), none, some (.long l4), none, some (.int l6), none, none] []) {l0 : Nat} {l1 : Int32} {l2 : Int64} {l4 : Int64} {l6 : Int32} {s0 : Nat} {s1 : Int32} {σ : Sg} (h : DX5_setBeyond_100 K14 l0 l1 l2 l4 l6 s0 s1 σ = some (r, σ')) : Y E p l e (rmA 2 0 0) s m args below meth c (some (.long r)) σ' 0 0 9 0 0 σ 100 [some (.ref (ad E l0)), some (.int l1), some (.long l2), none, some (.long l4), none, some (.int l6), none, none] [.int s1, .ref (ad E s0)] := by
  unfold DX5_setBeyond_100 at h
  refine x_iconst (v := 0) (pc := 100) C dX5_setBeyond_100 (by decide) ?_
  exact x_sub (tX5_setBeyond_101 C hr hK14 h) (xLe_s (xLe_s (xLe_s (xLe_n (xLe_s (xLe_n (xLe_s (xLe_n (xLe_n xLe_0)))))))))
def DX5_setBeyond_138 (l4 : Int64) (σ : Sg) : Option (Int64 × Sg) :=
  some (l4, σ)
theorem tX5_setBeyond_138 {r : Int64} {σ' : Sg} (C : Cx E p s m args meth c RX5 cX5_setBeyond 9) (hr : meth.sig.returnType = (some .long)) {l4 : Int64} {σ : Sg} (h : DX5_setBeyond_138 l4 σ = some (r, σ')) : Y E p l e (rmA 2 0 0) s m args below meth c (some (.long r)) σ' 0 0 9 0 0 σ 138 [none, none, none, none, some (.long l4), none, none, none, none] [] := by
  unfold DX5_setBeyond_138 at h
  refine x_lload (pc := 138) C dX5_setBeyond_138 rfl ?_
  cases h
  exact x_lret C hr dX5_setBeyond_140
def DX5_setBeyond_14 : Nat → Nat → Int32 → Int64 → Int64 → Int32 → Sg → Option (Int64 × Sg)
  | 0, _, _, _, _, _, _ => none
  | n + 1, l0, l1, l2, l4, l6, σ =>
    chk (ckO σ 4 l0) <|
    if (gI σ l0 2) ≤ l6 then
      DX5_setBeyond_138 l4 σ
    else
      chk (ckO σ 4 l0) <|
      chk (ckO σ 4 l0) <|
      chk (ckV (gR σ l0 11)) <|
      chk (ckJ σ (gR σ l0 11) l6) <|
      chk (ckO σ 4 l0) <|
      chk (ckV (gR σ l0 10)) <|
      chk (ckJ σ (gR σ l0 10) l6) <|
      chk (ckO σ 4 l0) <|
      chk (ckV (gR σ l0 14)) <|
      chk (ckO σ 4 l0) <|
      chk (ckV (gR σ l0 9)) <|
      chk (ckI σ (gR σ l0 9) l6) <|
      if (aI σ (gR σ l0 9) l6.toNatClampNeg) = 0 then
        chk (ckO σ 4 l0) <|
        chk (ckV (gR σ l0 8)) <|
        chk (ckI σ (gR σ l0 8) l6) <|
        if (aI σ (gR σ l0 8) l6.toNatClampNeg) = l1 then
          if l1 = (3 : Int32) then
            if (0 : Int64) ≤ (((gJ σ l0 15) * (aJ σ (gR σ l0 11) l6.toNatClampNeg)) - ((aJ σ (gR σ l0 10) l6.toNatClampNeg) * l2)) then
              DX5_setBeyond_100 (DX5_setBeyond_14 n) l0 l1 l2 l4 l6 (gR σ l0 14) l6 σ
            else
              DX5_setBeyond_96 (DX5_setBeyond_14 n) l0 l1 l2 l4 l6 (gR σ l0 14) l6 σ
          else
            if (((gJ σ l0 15) * (aJ σ (gR σ l0 11) l6.toNatClampNeg)) - ((aJ σ (gR σ l0 10) l6.toNatClampNeg) * l2)) ≤ (0 : Int64) then
              DX5_setBeyond_100 (DX5_setBeyond_14 n) l0 l1 l2 l4 l6 (gR σ l0 14) l6 σ
            else
              DX5_setBeyond_96 (DX5_setBeyond_14 n) l0 l1 l2 l4 l6 (gR σ l0 14) l6 σ
        else
          DX5_setBeyond_100 (DX5_setBeyond_14 n) l0 l1 l2 l4 l6 (gR σ l0 14) l6 σ
      else
        DX5_setBeyond_100 (DX5_setBeyond_14 n) l0 l1 l2 l4 l6 (gR σ l0 14) l6 σ
theorem tX5_setBeyond_14 {r : Int64} {σ' : Sg} (C : Cx E p s m args meth c RX5 cX5_setBeyond 9) (hr : meth.sig.returnType = (some .long)) : ∀ (n : Nat) (l0 : Nat) (l1 : Int32) (l2 : Int64) (l4 : Int64) (l6 : Int32) (σ : Sg) (h : DX5_setBeyond_14 n l0 l1 l2 l4 l6 σ = some (r, σ')), Y E p l e (rmA 2 0 0) s m args below meth c (some (.long r)) σ' 0 0 9 0 0 σ 14 [some (.ref (ad E l0)), some (.int l1), some (.long l2), none, some (.long l4), none, some (.int l6), none, none] [] := by
  intro n
  induction n with
  | zero => intro l0 l1 l2 l4 l6 σ h; cases h
  | succ n ih =>
    intro l0 l1 l2 l4 l6 σ h
    unfold DX5_setBeyond_14 at h
    refine x_iload (pc := 14) C dX5_setBeyond_14 rfl ?_
    refine x_aload_n (pc := 16) C dX5_setBeyond_16 rfl rfl ?_
    obtain ⟨k, h⟩ := chk_s h
    refine x_getI (pc := 17) C fX5_15 rfl k dX5_setBeyond_17 ?_
    refine x_icmp_ge (pc := 20) (tgt := 138) C dX5_setBeyond_20 (by decide) (fun q => ?_) (fun q => ?_)
    · rw [if_pos q] at h
      exact x_sub (tX5_setBeyond_138 C hr h) (xLe_n (xLe_n (xLe_n (xLe_n (xLe_s (xLe_n (xLe_n (xLe_n (xLe_n xLe_0)))))))))
    · rw [if_neg q] at h
      refine x_aload_n (pc := 23) C dX5_setBeyond_23 rfl rfl ?_
      obtain ⟨k, h⟩ := chk_s h
      refine x_getJ (pc := 24) C fX5_57 rfl k dX5_setBeyond_24 ?_
      refine x_aload_n (pc := 27) C dX5_setBeyond_27 rfl rfl ?_
      obtain ⟨k, h⟩ := chk_s h
      have k2 := k
      obtain ⟨k, h⟩ := chk_s h
      refine x_getR (pc := 28) C fX5_44 rfl k2 k dX5_setBeyond_28 ?_
      refine x_iload (pc := 31) C dX5_setBeyond_31 rfl ?_
      obtain ⟨k, h⟩ := chk_s h
      refine x_lald (pc := 33) C k dX5_setBeyond_33 ?_
      refine x_lmul (pc := 34) C dX5_setBeyond_34 ?_
      refine x_aload_n (pc := 35) C dX5_setBeyond_35 rfl rfl ?_
      obtain ⟨k, h⟩ := chk_s h
      have k2 := k
      obtain ⟨k, h⟩ := chk_s h
      refine x_getR (pc := 36) C fX5_40 rfl k2 k dX5_setBeyond_36 ?_
      refine x_iload (pc := 39) C dX5_setBeyond_39 rfl ?_
      obtain ⟨k, h⟩ := chk_s h
      refine x_lald (pc := 41) C k dX5_setBeyond_41 ?_
      refine x_lload_n (pc := 42) C dX5_setBeyond_42 rfl rfl ?_
      refine x_lmul (pc := 43) C dX5_setBeyond_43 ?_
      refine x_lsub (pc := 44) C dX5_setBeyond_44 ?_
      refine x_lstore (M := [some _, some _, some _, none, some _, none, some _, some _, none]) (pc := 45) C dX5_setBeyond_45 (by decide) rfl ?_
      refine x_aload_n (pc := 47) C dX5_setBeyond_47 rfl rfl ?_
      obtain ⟨k, h⟩ := chk_s h
      have k2 := k
      obtain ⟨k, h⟩ := chk_s h
      refine x_getR (pc := 48) C fX5_53 rfl k2 k dX5_setBeyond_48 ?_
      refine x_iload (pc := 51) C dX5_setBeyond_51 rfl ?_
      refine x_aload_n (pc := 53) C dX5_setBeyond_53 rfl rfl ?_
      obtain ⟨k, h⟩ := chk_s h
      have k2 := k
      obtain ⟨k, h⟩ := chk_s h
      refine x_getR (pc := 54) C fX5_37 rfl k2 k dX5_setBeyond_54 ?_
      refine x_iload (pc := 57) C dX5_setBeyond_57 rfl ?_
      obtain ⟨k, h⟩ := chk_s h
      refine x_iald (pc := 59) C k dX5_setBeyond_59 ?_
      refine x_if_ne (pc := 60) (tgt := 100) C dX5_setBeyond_60 (by decide) (fun q => ?_) (fun q => ?_)
      · rw [if_pos q] at h
        refine x_aload_n (pc := 63) C dX5_setBeyond_63 rfl rfl ?_
        obtain ⟨k, h⟩ := chk_s h
        have k2 := k
        obtain ⟨k, h⟩ := chk_s h
        refine x_getR (pc := 64) C fX5_34 rfl k2 k dX5_setBeyond_64 ?_
        refine x_iload (pc := 67) C dX5_setBeyond_67 rfl ?_
        obtain ⟨k, h⟩ := chk_s h
        refine x_iald (pc := 69) C k dX5_setBeyond_69 ?_
        refine x_iload_n (pc := 70) C dX5_setBeyond_70 rfl rfl ?_
        refine x_icmp_ne (pc := 71) (tgt := 100) C dX5_setBeyond_71 (by decide) (fun q => ?_) (fun q => ?_)
        · rw [if_pos q] at h
          refine x_iload_n (pc := 74) C dX5_setBeyond_74 rfl rfl ?_
          refine x_iconst (v := 3) (pc := 75) C dX5_setBeyond_75 (by decide) ?_
          refine x_icmp_ne (pc := 76) (tgt := 89) C dX5_setBeyond_76 (by decide) (fun q => ?_) (fun q => ?_)
          · rw [if_pos q] at h
            refine x_lload (pc := 79) C dX5_setBeyond_79 rfl ?_
            refine x_lconst (v := 0) (pc := 81) C dX5_setBeyond_81 (by decide) ?_
            refine x_lcmp (pc := 82) C dX5_setBeyond_82 ?_
            refine x_lif_ge (pc := 83) (tgt := 100) C dX5_setBeyond_83 (by decide) (fun q => ?_) (fun q => ?_)
            · rw [if_pos q] at h
              exact x_sub (tX5_setBeyond_100 C hr ih h) (xLe_s (xLe_s (xLe_s (xLe_n (xLe_s (xLe_n (xLe_s (xLe_n (xLe_n xLe_0)))))))))
            · rw [if_neg q] at h
              refine x_goto (tgt := 96) (pc := 86) C dX5_setBeyond_86 (by decide) ?_
              exact x_sub (tX5_setBeyond_96 C hr ih h) (xLe_s (xLe_s (xLe_s (xLe_n (xLe_s (xLe_n (xLe_s (xLe_n (xLe_n xLe_0)))))))))
          · rw [if_neg q] at h
            refine x_lload (pc := 89) C dX5_setBeyond_89 rfl ?_
            refine x_lconst (v := 0) (pc := 91) C dX5_setBeyond_91 (by decide) ?_
            refine x_lcmp (pc := 92) C dX5_setBeyond_92 ?_
            refine x_lif_le (pc := 93) (tgt := 100) C dX5_setBeyond_93 (by decide) (fun q => ?_) (fun q => ?_)
            · rw [if_pos q] at h
              exact x_sub (tX5_setBeyond_100 C hr ih h) (xLe_s (xLe_s (xLe_s (xLe_n (xLe_s (xLe_n (xLe_s (xLe_n (xLe_n xLe_0)))))))))
            · rw [if_neg q] at h
              exact x_sub (tX5_setBeyond_96 C hr ih h) (xLe_s (xLe_s (xLe_s (xLe_n (xLe_s (xLe_n (xLe_s (xLe_n (xLe_n xLe_0)))))))))
        · rw [if_neg q] at h
          exact x_sub (tX5_setBeyond_100 C hr ih h) (xLe_s (xLe_s (xLe_s (xLe_n (xLe_s (xLe_n (xLe_s (xLe_n (xLe_n xLe_0)))))))))
      · rw [if_neg q] at h
        exact x_sub (tX5_setBeyond_100 C hr ih h) (xLe_s (xLe_s (xLe_s (xLe_n (xLe_s (xLe_n (xLe_s (xLe_n (xLe_n xLe_0)))))))))
def DX5_setBeyond (l0 : Nat) (l1 : Int32) (σ : Sg) : Option (Int64 × Sg) :=
  chk (ckO σ 4 l0) <|
  bnd (DX5_openFactors l0 σ) fun v1 σ2 =>
  chk (ckO σ2 4 l0) <|
  DX5_setBeyond_14 FU l0 l1 v1 (0 : Int64) (gI σ2 l0 3) σ2
theorem mX5_setBeyond (E : Ev) (l : Launch) {l0 : Nat} {l1 : Int32} {σ : Sg} {r : Int64} {σ' : Sg} (h : DX5_setBeyond l0 l1 σ = some (r, σ')) : Mt E l yX5_setBeyond cX5_setBeyond 9 (some .long) 2 0 0 [.ref (ad E l0), .int l1] σ (some (.long r)) σ' := by
  refine Mt.ofX (by decide) (Nat.le_of_ble_eq_true rfl) (L0 := [some (.ref (ad E l0)), some (.int l1), none, none, none, none, none, none, none]) (xEntN_ok [.ref (ad E l0), .int l1] 9) (fun p e s m args below meth c C hr hn => ?_)
  unfold DX5_setBeyond at h
  refine x_aload_n (pc := 0) C dX5_setBeyond_0 rfl rfl ?_
  obtain ⟨k, h⟩ := chk_s h
  have k2 := k
  obtain ⟨v1, σ2, k, h⟩ := bnd_s h
  refine x_callV1 (pc := 1) C (mX5_openFactors E l k) cl4 k2 cX5_168 nX5_openFactors sX5_openFactors rfl rfl (Nat.le_of_ble_eq_true rfl) ⟨Nat.le_of_ble_eq_true rfl, Nat.le_of_ble_eq_true rfl, Nat.le_of_ble_eq_true rfl, Nat.le_of_ble_eq_true rfl⟩ dX5_setBeyond_1 ?_
  refine x_lstore_n (M := [some _, some _, some _, none, none, none, none, none, none]) (pc := 4) C dX5_setBeyond_4 rfl (by decide) rfl ?_
  refine x_lconst (v := 0) (pc := 5) C dX5_setBeyond_5 (by decide) ?_
  refine x_lstore (M := [some _, some _, some _, none, some _, none, none, none, none]) (pc := 6) C dX5_setBeyond_6 (by decide) rfl ?_
  refine x_aload_n (pc := 8) C dX5_setBeyond_8 rfl rfl ?_
  obtain ⟨k, h⟩ := chk_s h
  refine x_getI (pc := 9) C fX5_18 rfl k dX5_setBeyond_9 ?_
  refine x_istore (M := [some _, some _, some _, none, some _, none, some _, none, none]) (pc := 12) C dX5_setBeyond_12 (by decide) rfl ?_
  exact x_sub (tX5_setBeyond_14 C hr FU _ _ _ _ _ _ h) (xLe_s (xLe_s (xLe_s (xLe_n (xLe_s (xLe_n (xLe_s (xLe_n (xLe_n xLe_0)))))))))
def DX5_raiseToLeasts_20 (σ : Sg) : Option (Int32 × Sg) :=
  chk (ck01 (0 : Int32)) <|
  some ((0 : Int32), σ)
theorem tX5_raiseToLeasts_20 {r : Int32} {σ' : Sg} (C : Cx E p s m args meth c RX5 cX5_raiseToLeasts 4) (hr : meth.sig.returnType = (some .boolean)) {σ : Sg} (h : DX5_raiseToLeasts_20  σ = some (r, σ')) : Y E p l e (rmA 3 0 0) s m args below meth c (some (.int r)) σ' 0 0 4 0 0 σ 20 [none, none, none, none] [] := by
  unfold DX5_raiseToLeasts_20 at h
  refine x_iconst (v := 0) (pc := 20) C dX5_raiseToLeasts_20 (by decide) ?_
  obtain ⟨kz, h⟩ := chk_s h
  cases h
  exact x_zret C hr (nar_01 kz) dX5_raiseToLeasts_21
def DX5_raiseToLeasts_41 (l0 : Nat) (σ : Sg) : Option (Int32 × Sg) :=
  chk (ckO σ 4 l0) <|
  chk (ckV (gR σ l0 10)) <|
  chk (ckO σ 4 l0) <|
  bnd (DX5_partPool l0 (gR σ l0 10) σ) fun _ σ1 =>
  chk (ck01 (1 : Int32)) <|
  some ((1 : Int32), σ1)
theorem tX5_raiseToLeasts_41 {r : Int32} {σ' : Sg} (C : Cx E p s m args meth c RX5 cX5_raiseToLeasts 4) (hr : meth.sig.returnType = (some .boolean)) {l0 : Nat} {σ : Sg} (h : DX5_raiseToLeasts_41 l0 σ = some (r, σ')) : Y E p l e (rmA 3 0 0) s m args below meth c (some (.int r)) σ' 0 0 4 0 0 σ 41 [some (.ref (ad E l0)), none, none, none] [] := by
  unfold DX5_raiseToLeasts_41 at h
  refine x_aload_n (pc := 41) C dX5_raiseToLeasts_41 rfl rfl ?_
  refine x_aload_n (pc := 42) C dX5_raiseToLeasts_42 rfl rfl ?_
  obtain ⟨k, h⟩ := chk_s h
  have k2 := k
  obtain ⟨k, h⟩ := chk_s h
  refine x_getR (pc := 43) C fX5_40 rfl k2 k dX5_raiseToLeasts_43 ?_
  obtain ⟨k, h⟩ := chk_s h
  have k2 := k
  obtain ⟨u0, σ1, k, h⟩ := bnd_s h
  refine x_callV0 (pc := 46) C (mX5_partPool E l k) cl4 k2 cX5_157 nX5_partPool sX5_partPool rfl rfl (Nat.le_of_ble_eq_true rfl) ⟨Nat.le_of_ble_eq_true rfl, Nat.le_of_ble_eq_true rfl, Nat.le_of_ble_eq_true rfl, Nat.le_of_ble_eq_true rfl⟩ dX5_raiseToLeasts_46 ?_
  refine x_iconst (v := 1) (pc := 49) C dX5_raiseToLeasts_49 (by decide) ?_
  obtain ⟨kz, h⟩ := chk_s h
  cases h
  exact x_zret C hr (nar_01 kz) dX5_raiseToLeasts_50
def DX5_raiseToLeasts_62 (σ : Sg) : Option (Int32 × Sg) :=
  chk (ck01 (0 : Int32)) <|
  some ((0 : Int32), σ)
theorem tX5_raiseToLeasts_62 {r : Int32} {σ' : Sg} (C : Cx E p s m args meth c RX5 cX5_raiseToLeasts 4) (hr : meth.sig.returnType = (some .boolean)) {σ : Sg} (h : DX5_raiseToLeasts_62  σ = some (r, σ')) : Y E p l e (rmA 3 0 0) s m args below meth c (some (.int r)) σ' 0 0 4 0 0 σ 62 [none, none, none, none] [] := by
  unfold DX5_raiseToLeasts_62 at h
  refine x_iconst (v := 0) (pc := 62) C dX5_raiseToLeasts_62 (by decide) ?_
  obtain ⟨kz, h⟩ := chk_s h
  cases h
  exact x_zret C hr (nar_01 kz) dX5_raiseToLeasts_63
def DX5_raiseToLeasts_2 : Nat → Nat → Int32 → Sg → Option (Int32 × Sg)
  | 0, _, _, _ => none
  | n + 1, l0, l1, σ =>
    if (8 : Int32) ≤ l1 then
      DX5_raiseToLeasts_62 σ
    else
      chk (ckO σ 4 l0) <|
      bnd (DX5_setBeyond l0 (3 : Int32) σ) fun v1 σ2 =>
      if v1 = (0 : Int64) then
        DX5_raiseToLeasts_20 σ2
      else
        chk (ckO σ2 4 l0) <|
        chk (ckO σ2 4 l0) <|
        wlet (pI σ2 l0 16 ((gI σ2 l0 16) + (1 : Int32))) fun σ3 =>
        chk (ckO σ3 4 l0) <|
        if v1 ≤ (gJ σ3 l0 15) then
          chk (ckO σ3 4 l0) <|
          bnd (DX5_giveValues l0 v1 σ3) fun _ σ4 =>
          DX5_raiseToLeasts_2 n l0 (l1 + (1 : Int32)) σ4
        else
          DX5_raiseToLeasts_41 l0 σ3
theorem tX5_raiseToLeasts_2 {r : Int32} {σ' : Sg} (C : Cx E p s m args meth c RX5 cX5_raiseToLeasts 4) (hr : meth.sig.returnType = (some .boolean)) : ∀ (n : Nat) (l0 : Nat) (l1 : Int32) (σ : Sg) (h : DX5_raiseToLeasts_2 n l0 l1 σ = some (r, σ')), Y E p l e (rmA 3 0 0) s m args below meth c (some (.int r)) σ' 0 0 4 0 0 σ 2 [some (.ref (ad E l0)), some (.int l1), none, none] [] := by
  intro n
  induction n with
  | zero => intro l0 l1 σ h; cases h
  | succ n ih =>
    intro l0 l1 σ h
    unfold DX5_raiseToLeasts_2 at h
    refine x_iload_n (pc := 2) C dX5_raiseToLeasts_2 rfl rfl ?_
    refine x_bipush (v := 8) (pc := 3) C dX5_raiseToLeasts_3 (by decide) ?_
    refine x_icmp_ge (pc := 5) (tgt := 62) C dX5_raiseToLeasts_5 (by decide) (fun q => ?_) (fun q => ?_)
    · rw [if_pos q] at h
      exact x_sub (tX5_raiseToLeasts_62 C hr h) (xLe_n (xLe_n (xLe_n (xLe_n xLe_0))))
    · rw [if_neg q] at h
      refine x_aload_n (pc := 8) C dX5_raiseToLeasts_8 rfl rfl ?_
      refine x_iconst (v := 3) (pc := 9) C dX5_raiseToLeasts_9 (by decide) ?_
      obtain ⟨k, h⟩ := chk_s h
      have k2 := k
      obtain ⟨v1, σ2, k, h⟩ := bnd_s h
      refine x_callV1 (pc := 10) C (mX5_setBeyond E l k) cl4 k2 cX5_165 nX5_setBeyond sX5_setBeyond rfl rfl (Nat.le_of_ble_eq_true rfl) ⟨Nat.le_of_ble_eq_true rfl, Nat.le_of_ble_eq_true rfl, Nat.le_of_ble_eq_true rfl, Nat.le_of_ble_eq_true rfl⟩ dX5_raiseToLeasts_10 ?_
      refine x_lstore_n (M := [some _, some _, some _, none]) (pc := 13) C dX5_raiseToLeasts_13 rfl (by decide) rfl ?_
      refine x_lload_n (pc := 14) C dX5_raiseToLeasts_14 rfl rfl ?_
      refine x_lconst (v := 0) (pc := 15) C dX5_raiseToLeasts_15 (by decide) ?_
      refine x_lcmp (pc := 16) C dX5_raiseToLeasts_16 ?_
      refine x_lif_ne (pc := 17) (tgt := 22) C dX5_raiseToLeasts_17 (by decide) (fun q => ?_) (fun q => ?_)
      · rw [if_pos q] at h
        exact x_sub (tX5_raiseToLeasts_20 C hr h) (xLe_n (xLe_n (xLe_n (xLe_n xLe_0))))
      · rw [if_neg q] at h
        refine x_aload_n (pc := 22) C dX5_raiseToLeasts_22 rfl rfl ?_
        refine x_dup (pc := 23) C dX5_raiseToLeasts_23 rfl ?_
        obtain ⟨k, h⟩ := chk_s h
        refine x_getI (pc := 24) C fX5_61 rfl k dX5_raiseToLeasts_24 ?_
        refine x_iconst (v := 1) (pc := 27) C dX5_raiseToLeasts_27 (by decide) ?_
        refine x_iadd (pc := 28) C dX5_raiseToLeasts_28 ?_
        obtain ⟨k, h⟩ := chk_s h
        obtain ⟨σ3, e1, h⟩ := wlet_s h
        refine x_putI (pc := 29) C pX5_61 rfl k dX5_raiseToLeasts_29 (x_eq e1 ?_)
        refine x_lload_n (pc := 32) C dX5_raiseToLeasts_32 rfl rfl ?_
        refine x_aload_n (pc := 33) C dX5_raiseToLeasts_33 rfl rfl ?_
        obtain ⟨k, h⟩ := chk_s h
        refine x_getJ (pc := 34) C fX5_57 rfl k dX5_raiseToLeasts_34 ?_
        refine x_lcmp (pc := 37) C dX5_raiseToLeasts_37 ?_
        refine x_lif_le (pc := 38) (tgt := 51) C dX5_raiseToLeasts_38 (by decide) (fun q => ?_) (fun q => ?_)
        · rw [if_pos q] at h
          refine x_aload_n (pc := 51) C dX5_raiseToLeasts_51 rfl rfl ?_
          refine x_lload_n (pc := 52) C dX5_raiseToLeasts_52 rfl rfl ?_
          obtain ⟨k, h⟩ := chk_s h
          have k2 := k
          obtain ⟨u0, σ4, k, h⟩ := bnd_s h
          refine x_callV0 (pc := 53) C (mX5_giveValues E l k) cl4 k2 cX5_161 nX5_giveValues sX5_giveValues rfl rfl (Nat.le_of_ble_eq_true rfl) ⟨Nat.le_of_ble_eq_true rfl, Nat.le_of_ble_eq_true rfl, Nat.le_of_ble_eq_true rfl, Nat.le_of_ble_eq_true rfl⟩ dX5_raiseToLeasts_53 ?_
          refine x_iinc (v := 1) (M := [some _, some _, some _, none]) (pc := 56) C dX5_raiseToLeasts_56 rfl (by decide) (by decide) rfl ?_
          refine x_goto (tgt := 2) (pc := 59) C dX5_raiseToLeasts_59 (by decide) ?_
          exact x_sub (ih _ _ _ h) (xLe_s (xLe_s (xLe_n (xLe_n xLe_0))))
        · rw [if_neg q] at h
          exact x_sub (tX5_raiseToLeasts_41 C hr h) (xLe_s (xLe_n (xLe_n (xLe_n xLe_0))))
def DX5_raiseToLeasts (l0 : Nat) (σ : Sg) : Option (Int32 × Sg) :=
  DX5_raiseToLeasts_2 FU l0 (0 : Int32) σ
theorem mX5_raiseToLeasts (E : Ev) (l : Launch) {l0 : Nat} {σ : Sg} {r : Int32} {σ' : Sg} (h : DX5_raiseToLeasts l0 σ = some (r, σ')) : Mt E l yX5_raiseToLeasts cX5_raiseToLeasts 4 (some .boolean) 3 0 0 [.ref (ad E l0)] σ (some (.int r)) σ' := by
  refine Mt.ofX (by decide) (Nat.le_of_ble_eq_true rfl) (L0 := [some (.ref (ad E l0)), none, none, none]) (xEntN_ok [.ref (ad E l0)] 4) (fun p e s m args below meth c C hr hn => ?_)
  unfold DX5_raiseToLeasts at h
  refine x_iconst (v := 0) (pc := 0) C dX5_raiseToLeasts_0 (by decide) ?_
  refine x_istore_n (M := [some _, some _, none, none]) (pc := 1) C dX5_raiseToLeasts_1 rfl (by decide) rfl ?_
  exact x_sub (tX5_raiseToLeasts_2 C hr FU _ _ _ h) (xLe_s (xLe_s (xLe_n (xLe_n xLe_0))))
def DX5_partAmong_33 (K5 : Nat → Int32 → Int32 → Sg → Option (Unit × Sg)) (l0 : Nat) (l1 : Int32) (l2 : Int32) (s0 : Nat) (s1 : Int32) (s2 : Int32) (σ : Sg) : Option (Unit × Sg) :=
  chk (ckZ σ s0 s1) <|
  chk (ck01 s2) <|
  wlet (wI σ s0 s1.toNatClampNeg s2) fun σ1 =>
  K5 l0 l1 (l2 + (1 : Int32)) σ1
theorem tX5_partAmong_33 {r : Unit} {σ' : Sg} (C : Cx E p s m args meth c RX5 cX5_partAmong 3) (hr : meth.sig.returnType = none) {K5 : Nat → Int32 → Int32 → Sg → Option (Unit × Sg)} (hK5 : ∀ (l0 : Nat) (l1 : Int32) (l2 : Int32) (σ : Sg), K5 l0 l1 l2 σ = some (r, σ') → Y E p l e (rmA 2 0 0) s m args below meth c none σ' 0 0 3 0 0 σ 5 [some (.ref (ad E l0)), some (.int l1), some (.int l2)] []) {l0 : Nat} {l1 : Int32} {l2 : Int32} {s0 : Nat} {s1 : Int32} {s2 : Int32} {σ : Sg} (h : DX5_partAmong_33 K5 l0 l1 l2 s0 s1 s2 σ = some (r, σ')) : Y E p l e (rmA 2 0 0) s m args below meth c none σ' 0 0 3 0 0 σ 33 [some (.ref (ad E l0)), some (.int l1), some (.int l2)] [.int s2, .int s1, .ref (ad E s0)] := by
  unfold DX5_partAmong_33 at h
  obtain ⟨k, h⟩ := chk_s h
  have k2 := k
  obtain ⟨k, h⟩ := chk_s h
  obtain ⟨σ1, e1, h⟩ := wlet_s h
  refine x_zast (pc := 33) C k2 k dX5_partAmong_33 (x_eq e1 ?_)
  refine x_iinc (v := 1) (M := [some _, some _, some _]) (pc := 34) C dX5_partAmong_34 rfl (by decide) (by decide) rfl ?_
  refine x_goto (tgt := 5) (pc := 37) C dX5_partAmong_37 (by decide) ?_
  exact x_sub (hK5 _ _ _ _ h) (xLe_s (xLe_s (xLe_s xLe_0)))
def DX5_partAmong_40 (l0 : Nat) (σ : Sg) : Option (Unit × Sg) :=
  chk (ckO σ 4 l0) <|
  chk (ckV (gR σ l0 11)) <|
  chk (ckO σ 4 l0) <|
  bnd (DX5_partPool l0 (gR σ l0 11) σ) fun _ σ1 =>
  some ((), σ1)
theorem tX5_partAmong_40 {r : Unit} {σ' : Sg} (C : Cx E p s m args meth c RX5 cX5_partAmong 3) (hr : meth.sig.returnType = none) {l0 : Nat} {σ : Sg} (h : DX5_partAmong_40 l0 σ = some (r, σ')) : Y E p l e (rmA 2 0 0) s m args below meth c none σ' 0 0 3 0 0 σ 40 [some (.ref (ad E l0)), none, none] [] := by
  unfold DX5_partAmong_40 at h
  refine x_aload_n (pc := 40) C dX5_partAmong_40 rfl rfl ?_
  refine x_aload_n (pc := 41) C dX5_partAmong_41 rfl rfl ?_
  obtain ⟨k, h⟩ := chk_s h
  have k2 := k
  obtain ⟨k, h⟩ := chk_s h
  refine x_getR (pc := 42) C fX5_44 rfl k2 k dX5_partAmong_42 ?_
  obtain ⟨k, h⟩ := chk_s h
  have k2 := k
  obtain ⟨u0, σ1, k, h⟩ := bnd_s h
  refine x_callV0 (pc := 45) C (mX5_partPool E l k) cl4 k2 cX5_157 nX5_partPool sX5_partPool rfl rfl (Nat.le_of_ble_eq_true rfl) ⟨Nat.le_of_ble_eq_true rfl, Nat.le_of_ble_eq_true rfl, Nat.le_of_ble_eq_true rfl, Nat.le_of_ble_eq_true rfl⟩ dX5_partAmong_45 ?_
  cases h
  exact x_vret C hr dX5_partAmong_48
def DX5_partAmong_5 : Nat → Nat → Int32 → Int32 → Sg → Option (Unit × Sg)
  | 0, _, _, _, _ => none
  | n + 1, l0, l1, l2, σ =>
    chk (ckO σ 4 l0) <|
    if (gI σ l0 2) ≤ l2 then
      DX5_partAmong_40 l0 σ
    else
      chk (ckO σ 4 l0) <|
      chk (ckV (gR σ l0 14)) <|
      chk (ckO σ 4 l0) <|
      chk (ckV (gR σ l0 9)) <|
      chk (ckI σ (gR σ l0 9) l2) <|
      if (aI σ (gR σ l0 9) l2.toNatClampNeg) = l1 then
        DX5_partAmong_33 (DX5_partAmong_5 n) l0 l1 l2 (gR σ l0 14) l2 (1 : Int32) σ
      else
        DX5_partAmong_33 (DX5_partAmong_5 n) l0 l1 l2 (gR σ l0 14) l2 (0 : Int32) σ
theorem tX5_partAmong_5 {r : Unit} {σ' : Sg} (C : Cx E p s m args meth c RX5 cX5_partAmong 3) (hr : meth.sig.returnType = none) : ∀ (n : Nat) (l0 : Nat) (l1 : Int32) (l2 : Int32) (σ : Sg) (h : DX5_partAmong_5 n l0 l1 l2 σ = some (r, σ')), Y E p l e (rmA 2 0 0) s m args below meth c none σ' 0 0 3 0 0 σ 5 [some (.ref (ad E l0)), some (.int l1), some (.int l2)] [] := by
  intro n
  induction n with
  | zero => intro l0 l1 l2 σ h; cases h
  | succ n ih =>
    intro l0 l1 l2 σ h
    unfold DX5_partAmong_5 at h
    refine x_iload_n (pc := 5) C dX5_partAmong_5 rfl rfl ?_
    refine x_aload_n (pc := 6) C dX5_partAmong_6 rfl rfl ?_
    obtain ⟨k, h⟩ := chk_s h
    refine x_getI (pc := 7) C fX5_15 rfl k dX5_partAmong_7 ?_
    refine x_icmp_ge (pc := 10) (tgt := 40) C dX5_partAmong_10 (by decide) (fun q => ?_) (fun q => ?_)
    · rw [if_pos q] at h
      exact x_sub (tX5_partAmong_40 C hr h) (xLe_s (xLe_n (xLe_n xLe_0)))
    · rw [if_neg q] at h
      refine x_aload_n (pc := 13) C dX5_partAmong_13 rfl rfl ?_
      obtain ⟨k, h⟩ := chk_s h
      have k2 := k
      obtain ⟨k, h⟩ := chk_s h
      refine x_getR (pc := 14) C fX5_53 rfl k2 k dX5_partAmong_14 ?_
      refine x_iload_n (pc := 17) C dX5_partAmong_17 rfl rfl ?_
      refine x_aload_n (pc := 18) C dX5_partAmong_18 rfl rfl ?_
      obtain ⟨k, h⟩ := chk_s h
      have k2 := k
      obtain ⟨k, h⟩ := chk_s h
      refine x_getR (pc := 19) C fX5_37 rfl k2 k dX5_partAmong_19 ?_
      refine x_iload_n (pc := 22) C dX5_partAmong_22 rfl rfl ?_
      obtain ⟨k, h⟩ := chk_s h
      refine x_iald (pc := 23) C k dX5_partAmong_23 ?_
      refine x_iload_n (pc := 24) C dX5_partAmong_24 rfl rfl ?_
      refine x_icmp_ne (pc := 25) (tgt := 32) C dX5_partAmong_25 (by decide) (fun q => ?_) (fun q => ?_)
      · rw [if_pos q] at h
        refine x_iconst (v := 1) (pc := 28) C dX5_partAmong_28 (by decide) ?_
        refine x_goto (tgt := 33) (pc := 29) C dX5_partAmong_29 (by decide) ?_
        exact x_sub (tX5_partAmong_33 C hr ih h) (xLe_s (xLe_s (xLe_s xLe_0)))
      · rw [if_neg q] at h
        refine x_iconst (v := 0) (pc := 32) C dX5_partAmong_32 (by decide) ?_
        exact x_sub (tX5_partAmong_33 C hr ih h) (xLe_s (xLe_s (xLe_s xLe_0)))
def DX5_partAmong (l0 : Nat) (l1 : Int32) (σ : Sg) : Option (Unit × Sg) :=
  chk (ckO σ 4 l0) <|
  DX5_partAmong_5 FU l0 l1 (gI σ l0 3) σ
theorem mX5_partAmong (E : Ev) (l : Launch) {l0 : Nat} {l1 : Int32} {σ : Sg} {r : Unit} {σ' : Sg} (h : DX5_partAmong l0 l1 σ = some (r, σ')) : Mt E l yX5_partAmong cX5_partAmong 3 none 2 0 0 [.ref (ad E l0), .int l1] σ none σ' := by
  refine Mt.ofX (by decide) (Nat.le_of_ble_eq_true rfl) (L0 := [some (.ref (ad E l0)), some (.int l1), none]) (xEntN_ok [.ref (ad E l0), .int l1] 3) (fun p e s m args below meth c C hr hn => ?_)
  unfold DX5_partAmong at h
  refine x_aload_n (pc := 0) C dX5_partAmong_0 rfl rfl ?_
  obtain ⟨k, h⟩ := chk_s h
  refine x_getI (pc := 1) C fX5_18 rfl k dX5_partAmong_1 ?_
  refine x_istore_n (M := [some _, some _, some _]) (pc := 4) C dX5_partAmong_4 rfl (by decide) rfl ?_
  exact x_sub (tX5_partAmong_5 C hr FU _ _ _ _ h) (xLe_s (xLe_s (xLe_s xLe_0)))
def DX5_lowerToMosts_20 (σ : Sg) : Option (Int32 × Sg) :=
  chk (ck01 (0 : Int32)) <|
  some ((0 : Int32), σ)
theorem tX5_lowerToMosts_20 {r : Int32} {σ' : Sg} (C : Cx E p s m args meth c RX5 cX5_lowerToMosts 4) (hr : meth.sig.returnType = (some .boolean)) {σ : Sg} (h : DX5_lowerToMosts_20  σ = some (r, σ')) : Y E p l e (rmA 3 0 0) s m args below meth c (some (.int r)) σ' 0 0 4 0 0 σ 20 [none, none, none, none] [] := by
  unfold DX5_lowerToMosts_20 at h
  refine x_iconst (v := 0) (pc := 20) C dX5_lowerToMosts_20 (by decide) ?_
  obtain ⟨kz, h⟩ := chk_s h
  cases h
  exact x_zret C hr (nar_01 kz) dX5_lowerToMosts_21
def DX5_lowerToMosts_46 (l0 : Nat) (σ : Sg) : Option (Int32 × Sg) :=
  chk (ckO σ 4 l0) <|
  bnd (DX5_partAmong l0 (4 : Int32) σ) fun _ σ1 =>
  chk (ck01 (1 : Int32)) <|
  some ((1 : Int32), σ1)
theorem tX5_lowerToMosts_46 {r : Int32} {σ' : Sg} (C : Cx E p s m args meth c RX5 cX5_lowerToMosts 4) (hr : meth.sig.returnType = (some .boolean)) {l0 : Nat} {σ : Sg} (h : DX5_lowerToMosts_46 l0 σ = some (r, σ')) : Y E p l e (rmA 3 0 0) s m args below meth c (some (.int r)) σ' 0 0 4 0 0 σ 46 [some (.ref (ad E l0)), none, none, none] [] := by
  unfold DX5_lowerToMosts_46 at h
  refine x_aload_n (pc := 46) C dX5_lowerToMosts_46 rfl rfl ?_
  refine x_iconst (v := 4) (pc := 47) C dX5_lowerToMosts_47 (by decide) ?_
  obtain ⟨k, h⟩ := chk_s h
  have k2 := k
  obtain ⟨u0, σ1, k, h⟩ := bnd_s h
  refine x_callV0 (pc := 48) C (mX5_partAmong E l k) cl4 k2 cX5_114 nX5_partAmong sX5_partAmong rfl rfl (Nat.le_of_ble_eq_true rfl) ⟨Nat.le_of_ble_eq_true rfl, Nat.le_of_ble_eq_true rfl, Nat.le_of_ble_eq_true rfl, Nat.le_of_ble_eq_true rfl⟩ dX5_lowerToMosts_48 ?_
  refine x_iconst (v := 1) (pc := 51) C dX5_lowerToMosts_51 (by decide) ?_
  obtain ⟨kz, h⟩ := chk_s h
  cases h
  exact x_zret C hr (nar_01 kz) dX5_lowerToMosts_52
def DX5_lowerToMosts_59 (σ : Sg) : Option (Int32 × Sg) :=
  chk (ck01 (0 : Int32)) <|
  some ((0 : Int32), σ)
theorem tX5_lowerToMosts_59 {r : Int32} {σ' : Sg} (C : Cx E p s m args meth c RX5 cX5_lowerToMosts 4) (hr : meth.sig.returnType = (some .boolean)) {σ : Sg} (h : DX5_lowerToMosts_59  σ = some (r, σ')) : Y E p l e (rmA 3 0 0) s m args below meth c (some (.int r)) σ' 0 0 4 0 0 σ 59 [none, none, none, none] [] := by
  unfold DX5_lowerToMosts_59 at h
  refine x_iconst (v := 0) (pc := 59) C dX5_lowerToMosts_59 (by decide) ?_
  obtain ⟨kz, h⟩ := chk_s h
  cases h
  exact x_zret C hr (nar_01 kz) dX5_lowerToMosts_60
def DX5_lowerToMosts_2 : Nat → Nat → Int32 → Sg → Option (Int32 × Sg)
  | 0, _, _, _ => none
  | n + 1, l0, l1, σ =>
    if (8 : Int32) ≤ l1 then
      DX5_lowerToMosts_59 σ
    else
      chk (ckO σ 4 l0) <|
      bnd (DX5_setBeyond l0 (4 : Int32) σ) fun v1 σ2 =>
      if v1 = (0 : Int64) then
        DX5_lowerToMosts_20 σ2
      else
        chk (ckO σ2 4 l0) <|
        chk (ckO σ2 4 l0) <|
        wlet (pI σ2 l0 16 ((gI σ2 l0 16) + (1 : Int32))) fun σ3 =>
        chk (ckO σ3 4 l0) <|
        bnd (DX5_giveValues l0 v1 σ3) fun _ σ4 =>
        chk (ckO σ4 4 l0) <|
        bnd (DX5_openFactors l0 σ4) fun v5 σ6 =>
        if v5 = (0 : Int64) then
          DX5_lowerToMosts_46 l0 σ6
        else
          DX5_lowerToMosts_2 n l0 (l1 + (1 : Int32)) σ6
theorem tX5_lowerToMosts_2 {r : Int32} {σ' : Sg} (C : Cx E p s m args meth c RX5 cX5_lowerToMosts 4) (hr : meth.sig.returnType = (some .boolean)) : ∀ (n : Nat) (l0 : Nat) (l1 : Int32) (σ : Sg) (h : DX5_lowerToMosts_2 n l0 l1 σ = some (r, σ')), Y E p l e (rmA 3 0 0) s m args below meth c (some (.int r)) σ' 0 0 4 0 0 σ 2 [some (.ref (ad E l0)), some (.int l1), none, none] [] := by
  intro n
  induction n with
  | zero => intro l0 l1 σ h; cases h
  | succ n ih =>
    intro l0 l1 σ h
    unfold DX5_lowerToMosts_2 at h
    refine x_iload_n (pc := 2) C dX5_lowerToMosts_2 rfl rfl ?_
    refine x_bipush (v := 8) (pc := 3) C dX5_lowerToMosts_3 (by decide) ?_
    refine x_icmp_ge (pc := 5) (tgt := 59) C dX5_lowerToMosts_5 (by decide) (fun q => ?_) (fun q => ?_)
    · rw [if_pos q] at h
      exact x_sub (tX5_lowerToMosts_59 C hr h) (xLe_n (xLe_n (xLe_n (xLe_n xLe_0))))
    · rw [if_neg q] at h
      refine x_aload_n (pc := 8) C dX5_lowerToMosts_8 rfl rfl ?_
      refine x_iconst (v := 4) (pc := 9) C dX5_lowerToMosts_9 (by decide) ?_
      obtain ⟨k, h⟩ := chk_s h
      have k2 := k
      obtain ⟨v1, σ2, k, h⟩ := bnd_s h
      refine x_callV1 (pc := 10) C (mX5_setBeyond E l k) cl4 k2 cX5_165 nX5_setBeyond sX5_setBeyond rfl rfl (Nat.le_of_ble_eq_true rfl) ⟨Nat.le_of_ble_eq_true rfl, Nat.le_of_ble_eq_true rfl, Nat.le_of_ble_eq_true rfl, Nat.le_of_ble_eq_true rfl⟩ dX5_lowerToMosts_10 ?_
      refine x_lstore_n (M := [some _, some _, some _, none]) (pc := 13) C dX5_lowerToMosts_13 rfl (by decide) rfl ?_
      refine x_lload_n (pc := 14) C dX5_lowerToMosts_14 rfl rfl ?_
      refine x_lconst (v := 0) (pc := 15) C dX5_lowerToMosts_15 (by decide) ?_
      refine x_lcmp (pc := 16) C dX5_lowerToMosts_16 ?_
      refine x_lif_ne (pc := 17) (tgt := 22) C dX5_lowerToMosts_17 (by decide) (fun q => ?_) (fun q => ?_)
      · rw [if_pos q] at h
        exact x_sub (tX5_lowerToMosts_20 C hr h) (xLe_n (xLe_n (xLe_n (xLe_n xLe_0))))
      · rw [if_neg q] at h
        refine x_aload_n (pc := 22) C dX5_lowerToMosts_22 rfl rfl ?_
        refine x_dup (pc := 23) C dX5_lowerToMosts_23 rfl ?_
        obtain ⟨k, h⟩ := chk_s h
        refine x_getI (pc := 24) C fX5_61 rfl k dX5_lowerToMosts_24 ?_
        refine x_iconst (v := 1) (pc := 27) C dX5_lowerToMosts_27 (by decide) ?_
        refine x_iadd (pc := 28) C dX5_lowerToMosts_28 ?_
        obtain ⟨k, h⟩ := chk_s h
        obtain ⟨σ3, e1, h⟩ := wlet_s h
        refine x_putI (pc := 29) C pX5_61 rfl k dX5_lowerToMosts_29 (x_eq e1 ?_)
        refine x_aload_n (pc := 32) C dX5_lowerToMosts_32 rfl rfl ?_
        refine x_lload_n (pc := 33) C dX5_lowerToMosts_33 rfl rfl ?_
        obtain ⟨k, h⟩ := chk_s h
        have k2 := k
        obtain ⟨u0, σ4, k, h⟩ := bnd_s h
        refine x_callV0 (pc := 34) C (mX5_giveValues E l k) cl4 k2 cX5_161 nX5_giveValues sX5_giveValues rfl rfl (Nat.le_of_ble_eq_true rfl) ⟨Nat.le_of_ble_eq_true rfl, Nat.le_of_ble_eq_true rfl, Nat.le_of_ble_eq_true rfl, Nat.le_of_ble_eq_true rfl⟩ dX5_lowerToMosts_34 ?_
        refine x_aload_n (pc := 37) C dX5_lowerToMosts_37 rfl rfl ?_
        obtain ⟨k, h⟩ := chk_s h
        have k2 := k
        obtain ⟨v5, σ6, k, h⟩ := bnd_s h
        refine x_callV1 (pc := 38) C (mX5_openFactors E l k) cl4 k2 cX5_168 nX5_openFactors sX5_openFactors rfl rfl (Nat.le_of_ble_eq_true rfl) ⟨Nat.le_of_ble_eq_true rfl, Nat.le_of_ble_eq_true rfl, Nat.le_of_ble_eq_true rfl, Nat.le_of_ble_eq_true rfl⟩ dX5_lowerToMosts_38 ?_
        refine x_lconst (v := 0) (pc := 41) C dX5_lowerToMosts_41 (by decide) ?_
        refine x_lcmp (pc := 42) C dX5_lowerToMosts_42 ?_
        refine x_lif_ne (pc := 43) (tgt := 53) C dX5_lowerToMosts_43 (by decide) (fun q => ?_) (fun q => ?_)
        · rw [if_pos q] at h
          exact x_sub (tX5_lowerToMosts_46 C hr h) (xLe_s (xLe_n (xLe_n (xLe_n xLe_0))))
        · rw [if_neg q] at h
          refine x_iinc (v := 1) (M := [some _, some _, some _, none]) (pc := 53) C dX5_lowerToMosts_53 rfl (by decide) (by decide) rfl ?_
          refine x_goto (tgt := 2) (pc := 56) C dX5_lowerToMosts_56 (by decide) ?_
          exact x_sub (ih _ _ _ h) (xLe_s (xLe_s (xLe_n (xLe_n xLe_0))))
def DX5_lowerToMosts (l0 : Nat) (σ : Sg) : Option (Int32 × Sg) :=
  DX5_lowerToMosts_2 FU l0 (0 : Int32) σ
theorem mX5_lowerToMosts (E : Ev) (l : Launch) {l0 : Nat} {σ : Sg} {r : Int32} {σ' : Sg} (h : DX5_lowerToMosts l0 σ = some (r, σ')) : Mt E l yX5_lowerToMosts cX5_lowerToMosts 4 (some .boolean) 3 0 0 [.ref (ad E l0)] σ (some (.int r)) σ' := by
  refine Mt.ofX (by decide) (Nat.le_of_ble_eq_true rfl) (L0 := [some (.ref (ad E l0)), none, none, none]) (xEntN_ok [.ref (ad E l0)] 4) (fun p e s m args below meth c C hr hn => ?_)
  unfold DX5_lowerToMosts at h
  refine x_iconst (v := 0) (pc := 0) C dX5_lowerToMosts_0 (by decide) ?_
  refine x_istore_n (M := [some _, some _, none, none]) (pc := 1) C dX5_lowerToMosts_1 rfl (by decide) rfl ?_
  exact x_sub (tX5_lowerToMosts_2 C hr FU _ _ _ h) (xLe_s (xLe_s (xLe_n (xLe_n xLe_0))))
def DX5_greatestRest_49 (K7 : Nat → Int32 → Int32 → Sg → Option (Int32 × Sg)) (l0 : Nat) (l1 : Int32) (l2 : Int32) (σ : Sg) : Option (Int32 × Sg) :=
  K7 l0 l1 (l2 + (1 : Int32)) σ
theorem tX5_greatestRest_49 {r : Int32} {σ' : Sg} (C : Cx E p s m args meth c RX5 cX5_greatestRest 3) (hr : meth.sig.returnType = (some .int)) {K7 : Nat → Int32 → Int32 → Sg → Option (Int32 × Sg)} (hK7 : ∀ (l0 : Nat) (l1 : Int32) (l2 : Int32) (σ : Sg), K7 l0 l1 l2 σ = some (r, σ') → Y E p l e (rmA 1 0 0) s m args below meth c (some (.int r)) σ' 0 0 3 0 0 σ 7 [some (.ref (ad E l0)), some (.int l1), some (.int l2)] []) {l0 : Nat} {l1 : Int32} {l2 : Int32} {σ : Sg} (h : DX5_greatestRest_49 K7 l0 l1 l2 σ = some (r, σ')) : Y E p l e (rmA 1 0 0) s m args below meth c (some (.int r)) σ' 0 0 3 0 0 σ 49 [some (.ref (ad E l0)), some (.int l1), some (.int l2)] [] := by
  unfold DX5_greatestRest_49 at h
  refine x_iinc (v := 1) (M := [some _, some _, some _]) (pc := 49) C dX5_greatestRest_49 rfl (by decide) (by decide) rfl ?_
  refine x_goto (tgt := 7) (pc := 52) C dX5_greatestRest_52 (by decide) ?_
  exact x_sub (hK7 _ _ _ _ h) (xLe_s (xLe_s (xLe_s xLe_0)))
def DX5_greatestRest_47 (K7 : Nat → Int32 → Int32 → Sg → Option (Int32 × Sg)) (l0 : Nat) (l2 : Int32) (σ : Sg) : Option (Int32 × Sg) :=
  DX5_greatestRest_49 K7 l0 l2 l2 σ
theorem tX5_greatestRest_47 {r : Int32} {σ' : Sg} (C : Cx E p s m args meth c RX5 cX5_greatestRest 3) (hr : meth.sig.returnType = (some .int)) {K7 : Nat → Int32 → Int32 → Sg → Option (Int32 × Sg)} (hK7 : ∀ (l0 : Nat) (l1 : Int32) (l2 : Int32) (σ : Sg), K7 l0 l1 l2 σ = some (r, σ') → Y E p l e (rmA 1 0 0) s m args below meth c (some (.int r)) σ' 0 0 3 0 0 σ 7 [some (.ref (ad E l0)), some (.int l1), some (.int l2)] []) {l0 : Nat} {l2 : Int32} {σ : Sg} (h : DX5_greatestRest_47 K7 l0 l2 σ = some (r, σ')) : Y E p l e (rmA 1 0 0) s m args below meth c (some (.int r)) σ' 0 0 3 0 0 σ 47 [some (.ref (ad E l0)), none, some (.int l2)] [] := by
  unfold DX5_greatestRest_47 at h
  refine x_iload_n (pc := 47) C dX5_greatestRest_47 rfl rfl ?_
  refine x_istore_n (M := [some _, some _, some _]) (pc := 48) C dX5_greatestRest_48 rfl (by decide) rfl ?_
  exact x_sub (tX5_greatestRest_49 C hr hK7 h) (xLe_s (xLe_s (xLe_s xLe_0)))
def DX5_greatestRest_55 (l1 : Int32) (σ : Sg) : Option (Int32 × Sg) :=
  some (l1, σ)
theorem tX5_greatestRest_55 {r : Int32} {σ' : Sg} (C : Cx E p s m args meth c RX5 cX5_greatestRest 3) (hr : meth.sig.returnType = (some .int)) {l1 : Int32} {σ : Sg} (h : DX5_greatestRest_55 l1 σ = some (r, σ')) : Y E p l e (rmA 1 0 0) s m args below meth c (some (.int r)) σ' 0 0 3 0 0 σ 55 [none, some (.int l1), none] [] := by
  unfold DX5_greatestRest_55 at h
  refine x_iload_n (pc := 55) C dX5_greatestRest_55 rfl rfl ?_
  cases h
  exact x_iret C hr dX5_greatestRest_56
def DX5_greatestRest_7 : Nat → Nat → Int32 → Int32 → Sg → Option (Int32 × Sg)
  | 0, _, _, _, _ => none
  | n + 1, l0, l1, l2, σ =>
    chk (ckO σ 4 l0) <|
    if (gI σ l0 2) ≤ l2 then
      DX5_greatestRest_55 l1 σ
    else
      chk (ckO σ 4 l0) <|
      chk (ckV (gR σ l0 13)) <|
      chk (ckJ σ (gR σ l0 13) l2) <|
      if (aJ σ (gR σ l0 13) l2.toNatClampNeg) < (0 : Int64) then
        DX5_greatestRest_49 (DX5_greatestRest_7 n) l0 l1 l2 σ
      else
        if l1 = (-1 : Int32) then
          DX5_greatestRest_47 (DX5_greatestRest_7 n) l0 l2 σ
        else
          chk (ckO σ 4 l0) <|
          chk (ckV (gR σ l0 13)) <|
          chk (ckJ σ (gR σ l0 13) l2) <|
          chk (ckO σ 4 l0) <|
          chk (ckV (gR σ l0 13)) <|
          chk (ckJ σ (gR σ l0 13) l1) <|
          if (aJ σ (gR σ l0 13) l2.toNatClampNeg) ≤ (aJ σ (gR σ l0 13) l1.toNatClampNeg) then
            DX5_greatestRest_49 (DX5_greatestRest_7 n) l0 l1 l2 σ
          else
            DX5_greatestRest_47 (DX5_greatestRest_7 n) l0 l2 σ
theorem tX5_greatestRest_7 {r : Int32} {σ' : Sg} (C : Cx E p s m args meth c RX5 cX5_greatestRest 3) (hr : meth.sig.returnType = (some .int)) : ∀ (n : Nat) (l0 : Nat) (l1 : Int32) (l2 : Int32) (σ : Sg) (h : DX5_greatestRest_7 n l0 l1 l2 σ = some (r, σ')), Y E p l e (rmA 1 0 0) s m args below meth c (some (.int r)) σ' 0 0 3 0 0 σ 7 [some (.ref (ad E l0)), some (.int l1), some (.int l2)] [] := by
  intro n
  induction n with
  | zero => intro l0 l1 l2 σ h; cases h
  | succ n ih =>
    intro l0 l1 l2 σ h
    unfold DX5_greatestRest_7 at h
    refine x_iload_n (pc := 7) C dX5_greatestRest_7 rfl rfl ?_
    refine x_aload_n (pc := 8) C dX5_greatestRest_8 rfl rfl ?_
    obtain ⟨k, h⟩ := chk_s h
    refine x_getI (pc := 9) C fX5_15 rfl k dX5_greatestRest_9 ?_
    refine x_icmp_ge (pc := 12) (tgt := 55) C dX5_greatestRest_12 (by decide) (fun q => ?_) (fun q => ?_)
    · rw [if_pos q] at h
      exact x_sub (tX5_greatestRest_55 C hr h) (xLe_n (xLe_s (xLe_n xLe_0)))
    · rw [if_neg q] at h
      refine x_aload_n (pc := 15) C dX5_greatestRest_15 rfl rfl ?_
      obtain ⟨k, h⟩ := chk_s h
      have k2 := k
      obtain ⟨k, h⟩ := chk_s h
      refine x_getR (pc := 16) C fX5_50 rfl k2 k dX5_greatestRest_16 ?_
      refine x_iload_n (pc := 19) C dX5_greatestRest_19 rfl rfl ?_
      obtain ⟨k, h⟩ := chk_s h
      refine x_lald (pc := 20) C k dX5_greatestRest_20 ?_
      refine x_lconst (v := 0) (pc := 21) C dX5_greatestRest_21 (by decide) ?_
      refine x_lcmp (pc := 22) C dX5_greatestRest_22 ?_
      refine x_lif_lt (pc := 23) (tgt := 49) C dX5_greatestRest_23 (by decide) (fun q => ?_) (fun q => ?_)
      · rw [if_pos q] at h
        exact x_sub (tX5_greatestRest_49 C hr ih h) (xLe_s (xLe_s (xLe_s xLe_0)))
      · rw [if_neg q] at h
        refine x_iload_n (pc := 26) C dX5_greatestRest_26 rfl rfl ?_
        refine x_iconst (v := -1) (pc := 27) C dX5_greatestRest_27 (by decide) ?_
        refine x_icmp_eq (pc := 28) (tgt := 47) C dX5_greatestRest_28 (by decide) (fun q => ?_) (fun q => ?_)
        · rw [if_pos q] at h
          exact x_sub (tX5_greatestRest_47 C hr ih h) (xLe_s (xLe_n (xLe_s xLe_0)))
        · rw [if_neg q] at h
          refine x_aload_n (pc := 31) C dX5_greatestRest_31 rfl rfl ?_
          obtain ⟨k, h⟩ := chk_s h
          have k2 := k
          obtain ⟨k, h⟩ := chk_s h
          refine x_getR (pc := 32) C fX5_50 rfl k2 k dX5_greatestRest_32 ?_
          refine x_iload_n (pc := 35) C dX5_greatestRest_35 rfl rfl ?_
          obtain ⟨k, h⟩ := chk_s h
          refine x_lald (pc := 36) C k dX5_greatestRest_36 ?_
          refine x_aload_n (pc := 37) C dX5_greatestRest_37 rfl rfl ?_
          obtain ⟨k, h⟩ := chk_s h
          have k2 := k
          obtain ⟨k, h⟩ := chk_s h
          refine x_getR (pc := 38) C fX5_50 rfl k2 k dX5_greatestRest_38 ?_
          refine x_iload_n (pc := 41) C dX5_greatestRest_41 rfl rfl ?_
          obtain ⟨k, h⟩ := chk_s h
          refine x_lald (pc := 42) C k dX5_greatestRest_42 ?_
          refine x_lcmp (pc := 43) C dX5_greatestRest_43 ?_
          refine x_lif_le (pc := 44) (tgt := 49) C dX5_greatestRest_44 (by decide) (fun q => ?_) (fun q => ?_)
          · rw [if_pos q] at h
            exact x_sub (tX5_greatestRest_49 C hr ih h) (xLe_s (xLe_s (xLe_s xLe_0)))
          · rw [if_neg q] at h
            exact x_sub (tX5_greatestRest_47 C hr ih h) (xLe_s (xLe_n (xLe_s xLe_0)))
def DX5_greatestRest (l0 : Nat) (σ : Sg) : Option (Int32 × Sg) :=
  chk (ckO σ 4 l0) <|
  DX5_greatestRest_7 FU l0 (-1 : Int32) (gI σ l0 3) σ
theorem mX5_greatestRest (E : Ev) (l : Launch) {l0 : Nat} {σ : Sg} {r : Int32} {σ' : Sg} (h : DX5_greatestRest l0 σ = some (r, σ')) : Mt E l yX5_greatestRest cX5_greatestRest 3 (some .int) 1 0 0 [.ref (ad E l0)] σ (some (.int r)) σ' := by
  refine Mt.ofX (by decide) (Nat.le_of_ble_eq_true rfl) (L0 := [some (.ref (ad E l0)), none, none]) (xEntN_ok [.ref (ad E l0)] 3) (fun p e s m args below meth c C hr hn => ?_)
  unfold DX5_greatestRest at h
  refine x_iconst (v := -1) (pc := 0) C dX5_greatestRest_0 (by decide) ?_
  refine x_istore_n (M := [some _, some _, none]) (pc := 1) C dX5_greatestRest_1 rfl (by decide) rfl ?_
  refine x_aload_n (pc := 2) C dX5_greatestRest_2 rfl rfl ?_
  obtain ⟨k, h⟩ := chk_s h
  refine x_getI (pc := 3) C fX5_18 rfl k dX5_greatestRest_3 ?_
  refine x_istore_n (M := [some _, some _, some _]) (pc := 6) C dX5_greatestRest_6 rfl (by decide) rfl ?_
  exact x_sub (tX5_greatestRest_7 C hr FU _ _ _ _ h) (xLe_s (xLe_s (xLe_s xLe_0)))
def DX5_giveCentsLeft_54 (K11 : Nat → Int32 → Sg → Option (Unit × Sg)) (l0 : Nat) (l1 : Int32) (σ : Sg) : Option (Unit × Sg) :=
  K11 l0 (l1 + (1 : Int32)) σ
theorem tX5_giveCentsLeft_54 {r : Unit} {σ' : Sg} (C : Cx E p s m args meth c RX5 cX5_giveCentsLeft 3) (hr : meth.sig.returnType = none) {K11 : Nat → Int32 → Sg → Option (Unit × Sg)} (hK11 : ∀ (l0 : Nat) (l1 : Int32) (σ : Sg), K11 l0 l1 σ = some (r, σ') → Y E p l e (rmA 2 0 0) s m args below meth c none σ' 0 0 3 0 0 σ 11 [some (.ref (ad E l0)), some (.int l1), none] []) {l0 : Nat} {l1 : Int32} {σ : Sg} (h : DX5_giveCentsLeft_54 K11 l0 l1 σ = some (r, σ')) : Y E p l e (rmA 2 0 0) s m args below meth c none σ' 0 0 3 0 0 σ 54 [some (.ref (ad E l0)), some (.int l1), none] [] := by
  unfold DX5_giveCentsLeft_54 at h
  refine x_iinc (v := 1) (M := [some _, some _, none]) (pc := 54) C dX5_giveCentsLeft_54 rfl (by decide) (by decide) rfl ?_
  refine x_goto (tgt := 11) (pc := 57) C dX5_giveCentsLeft_57 (by decide) ?_
  exact x_sub (hK11 _ _ _ h) (xLe_s (xLe_s (xLe_n xLe_0)))
def DX5_giveCentsLeft_60 (σ : Sg) : Option (Unit × Sg) :=
  some ((), σ)
theorem tX5_giveCentsLeft_60 {r : Unit} {σ' : Sg} (C : Cx E p s m args meth c RX5 cX5_giveCentsLeft 3) (hr : meth.sig.returnType = none) {σ : Sg} (h : DX5_giveCentsLeft_60  σ = some (r, σ')) : Y E p l e (rmA 2 0 0) s m args below meth c none σ' 0 0 3 0 0 σ 60 [none, none, none] [] := by
  unfold DX5_giveCentsLeft_60 at h
  cases h
  exact x_vret C hr dX5_giveCentsLeft_60
def DX5_giveCentsLeft_11 : Nat → Nat → Int32 → Sg → Option (Unit × Sg)
  | 0, _, _, _ => none
  | n + 1, l0, l1, σ =>
    chk (ckO σ 4 l0) <|
    if (gI σ l0 17) ≤ l1 then
      DX5_giveCentsLeft_60 σ
    else
      if (8 : Int32) ≤ l1 then
        DX5_giveCentsLeft_60 σ
      else
        chk (ckO σ 4 l0) <|
        bnd (DX5_greatestRest l0 σ) fun v1 σ2 =>
        if v1 = (-1 : Int32) then
          DX5_giveCentsLeft_54 (DX5_giveCentsLeft_11 n) l0 l1 σ2
        else
          chk (ckO σ2 4 l0) <|
          chk (ckV (gR σ2 l0 12)) <|
          chk (ckI σ2 (gR σ2 l0 12) v1) <|
          chk (ckI σ2 (gR σ2 l0 12) v1) <|
          wlet (wI σ2 (gR σ2 l0 12) v1.toNatClampNeg ((aI σ2 (gR σ2 l0 12) v1.toNatClampNeg) + (1 : Int32))) fun σ3 =>
          chk (ckO σ3 4 l0) <|
          chk (ckV (gR σ3 l0 13)) <|
          chk (ckJ σ3 (gR σ3 l0 13) v1) <|
          wlet (wJ σ3 (gR σ3 l0 13) v1.toNatClampNeg (-1 : Int64)) fun σ4 =>
          DX5_giveCentsLeft_54 (DX5_giveCentsLeft_11 n) l0 l1 σ4
theorem tX5_giveCentsLeft_11 {r : Unit} {σ' : Sg} (C : Cx E p s m args meth c RX5 cX5_giveCentsLeft 3) (hr : meth.sig.returnType = none) : ∀ (n : Nat) (l0 : Nat) (l1 : Int32) (σ : Sg) (h : DX5_giveCentsLeft_11 n l0 l1 σ = some (r, σ')), Y E p l e (rmA 2 0 0) s m args below meth c none σ' 0 0 3 0 0 σ 11 [some (.ref (ad E l0)), some (.int l1), none] [] := by
  intro n
  induction n with
  | zero => intro l0 l1 σ h; cases h
  | succ n ih =>
    intro l0 l1 σ h
    unfold DX5_giveCentsLeft_11 at h
    refine x_iload_n (pc := 11) C dX5_giveCentsLeft_11 rfl rfl ?_
    refine x_aload_n (pc := 12) C dX5_giveCentsLeft_12 rfl rfl ?_
    obtain ⟨k, h⟩ := chk_s h
    refine x_getI (pc := 13) C fX5_64 rfl k dX5_giveCentsLeft_13 ?_
    refine x_icmp_ge (pc := 16) (tgt := 60) C dX5_giveCentsLeft_16 (by decide) (fun q => ?_) (fun q => ?_)
    · rw [if_pos q] at h
      exact x_sub (tX5_giveCentsLeft_60 C hr h) (xLe_n (xLe_n (xLe_n xLe_0)))
    · rw [if_neg q] at h
      refine x_iload_n (pc := 19) C dX5_giveCentsLeft_19 rfl rfl ?_
      refine x_bipush (v := 8) (pc := 20) C dX5_giveCentsLeft_20 (by decide) ?_
      refine x_icmp_ge (pc := 22) (tgt := 60) C dX5_giveCentsLeft_22 (by decide) (fun q => ?_) (fun q => ?_)
      · rw [if_pos q] at h
        exact x_sub (tX5_giveCentsLeft_60 C hr h) (xLe_n (xLe_n (xLe_n xLe_0)))
      · rw [if_neg q] at h
        refine x_aload_n (pc := 25) C dX5_giveCentsLeft_25 rfl rfl ?_
        obtain ⟨k, h⟩ := chk_s h
        have k2 := k
        obtain ⟨v1, σ2, k, h⟩ := bnd_s h
        refine x_callV1 (pc := 26) C (mX5_greatestRest E l k) cl4 k2 cX5_172 nX5_greatestRest sX5_greatestRest rfl rfl (Nat.le_of_ble_eq_true rfl) ⟨Nat.le_of_ble_eq_true rfl, Nat.le_of_ble_eq_true rfl, Nat.le_of_ble_eq_true rfl, Nat.le_of_ble_eq_true rfl⟩ dX5_giveCentsLeft_26 ?_
        refine x_istore_n (M := [some _, some _, some _]) (pc := 29) C dX5_giveCentsLeft_29 rfl (by decide) rfl ?_
        refine x_iload_n (pc := 30) C dX5_giveCentsLeft_30 rfl rfl ?_
        refine x_iconst (v := -1) (pc := 31) C dX5_giveCentsLeft_31 (by decide) ?_
        refine x_icmp_eq (pc := 32) (tgt := 54) C dX5_giveCentsLeft_32 (by decide) (fun q => ?_) (fun q => ?_)
        · rw [if_pos q] at h
          exact x_sub (tX5_giveCentsLeft_54 C hr ih h) (xLe_s (xLe_s (xLe_n xLe_0)))
        · rw [if_neg q] at h
          refine x_aload_n (pc := 35) C dX5_giveCentsLeft_35 rfl rfl ?_
          obtain ⟨k, h⟩ := chk_s h
          have k2 := k
          obtain ⟨k, h⟩ := chk_s h
          refine x_getR (pc := 36) C fX5_47 rfl k2 k dX5_giveCentsLeft_36 ?_
          refine x_iload_n (pc := 39) C dX5_giveCentsLeft_39 rfl rfl ?_
          refine x_dup2 (pc := 40) C dX5_giveCentsLeft_40 rfl rfl ?_
          obtain ⟨k, h⟩ := chk_s h
          refine x_iald (pc := 41) C k dX5_giveCentsLeft_41 ?_
          refine x_iconst (v := 1) (pc := 42) C dX5_giveCentsLeft_42 (by decide) ?_
          refine x_iadd (pc := 43) C dX5_giveCentsLeft_43 ?_
          obtain ⟨k, h⟩ := chk_s h
          obtain ⟨σ3, e1, h⟩ := wlet_s h
          refine x_iast (pc := 44) C k dX5_giveCentsLeft_44 (x_eq e1 ?_)
          refine x_aload_n (pc := 45) C dX5_giveCentsLeft_45 rfl rfl ?_
          obtain ⟨k, h⟩ := chk_s h
          have k2 := k
          obtain ⟨k, h⟩ := chk_s h
          refine x_getR (pc := 46) C fX5_50 rfl k2 k dX5_giveCentsLeft_46 ?_
          refine x_iload_n (pc := 49) C dX5_giveCentsLeft_49 rfl rfl ?_
          refine x_ldc2_w (pc := 50) C kX5_176 dX5_giveCentsLeft_50 ?_
          obtain ⟨k, h⟩ := chk_s h
          obtain ⟨σ4, e1, h⟩ := wlet_s h
          refine x_last (pc := 53) C k dX5_giveCentsLeft_53 (x_eq e1 ?_)
          exact x_sub (tX5_giveCentsLeft_54 C hr ih h) (xLe_s (xLe_s (xLe_n xLe_0)))
def DX5_giveCentsLeft (l0 : Nat) (σ : Sg) : Option (Unit × Sg) :=
  chk (ckO σ 4 l0) <|
  chk (ckO σ 4 l0) <|
  wlet (pI σ l0 17 ((gJ σ l0 15).toInt32)) fun σ1 =>
  DX5_giveCentsLeft_11 FU l0 (0 : Int32) σ1
theorem mX5_giveCentsLeft (E : Ev) (l : Launch) {l0 : Nat} {σ : Sg} {r : Unit} {σ' : Sg} (h : DX5_giveCentsLeft l0 σ = some (r, σ')) : Mt E l yX5_giveCentsLeft cX5_giveCentsLeft 3 none 2 0 0 [.ref (ad E l0)] σ none σ' := by
  refine Mt.ofX (by decide) (Nat.le_of_ble_eq_true rfl) (L0 := [some (.ref (ad E l0)), none, none]) (xEntN_ok [.ref (ad E l0)] 3) (fun p e s m args below meth c C hr hn => ?_)
  unfold DX5_giveCentsLeft at h
  refine x_aload_n (pc := 0) C dX5_giveCentsLeft_0 rfl rfl ?_
  refine x_aload_n (pc := 1) C dX5_giveCentsLeft_1 rfl rfl ?_
  obtain ⟨k, h⟩ := chk_s h
  refine x_getJ (pc := 2) C fX5_57 rfl k dX5_giveCentsLeft_2 ?_
  refine x_l2i (pc := 5) C dX5_giveCentsLeft_5 ?_
  obtain ⟨k, h⟩ := chk_s h
  obtain ⟨σ1, e1, h⟩ := wlet_s h
  refine x_putI (pc := 6) C pX5_64 rfl k dX5_giveCentsLeft_6 (x_eq e1 ?_)
  refine x_iconst (v := 0) (pc := 9) C dX5_giveCentsLeft_9 (by decide) ?_
  refine x_istore_n (M := [some _, some _, none]) (pc := 10) C dX5_giveCentsLeft_10 rfl (by decide) rfl ?_
  exact x_sub (tX5_giveCentsLeft_11 C hr FU _ _ _ h) (xLe_s (xLe_s (xLe_n xLe_0)))
def DX5_prorate_113 (K23 : Nat → Int32 → Sg → Option (Unit × Sg)) (l0 : Nat) (l1 : Int32) (σ : Sg) : Option (Unit × Sg) :=
  K23 l0 (l1 + (1 : Int32)) σ
theorem tX5_prorate_113 {r : Unit} {σ' : Sg} (C : Cx E p s m args meth c RX5 cX5_prorate 2) (hr : meth.sig.returnType = none) {K23 : Nat → Int32 → Sg → Option (Unit × Sg)} (hK23 : ∀ (l0 : Nat) (l1 : Int32) (σ : Sg), K23 l0 l1 σ = some (r, σ') → Y E p l e (rmA 4 0 0) s m args below meth c none σ' 0 0 2 0 0 σ 23 [some (.ref (ad E l0)), some (.int l1)] []) {l0 : Nat} {l1 : Int32} {σ : Sg} (h : DX5_prorate_113 K23 l0 l1 σ = some (r, σ')) : Y E p l e (rmA 4 0 0) s m args below meth c none σ' 0 0 2 0 0 σ 113 [some (.ref (ad E l0)), some (.int l1)] [] := by
  unfold DX5_prorate_113 at h
  refine x_iinc (v := 1) (M := [some _, some _]) (pc := 113) C dX5_prorate_113 rfl (by decide) (by decide) rfl ?_
  refine x_goto (tgt := 23) (pc := 116) C dX5_prorate_116 (by decide) ?_
  exact x_sub (hK23 _ _ _ h) (xLe_s (xLe_s xLe_0))
def DX5_prorate_145 (l0 : Nat) (σ : Sg) : Option (Unit × Sg) :=
  chk (ckO σ 4 l0) <|
  bnd (DX5_giveCentsLeft l0 σ) fun _ σ1 =>
  some ((), σ1)
theorem tX5_prorate_145 {r : Unit} {σ' : Sg} (C : Cx E p s m args meth c RX5 cX5_prorate 2) (hr : meth.sig.returnType = none) {l0 : Nat} {σ : Sg} (h : DX5_prorate_145 l0 σ = some (r, σ')) : Y E p l e (rmA 4 0 0) s m args below meth c none σ' 0 0 2 0 0 σ 145 [some (.ref (ad E l0)), none] [] := by
  unfold DX5_prorate_145 at h
  refine x_aload_n (pc := 145) C dX5_prorate_145 rfl rfl ?_
  obtain ⟨k, h⟩ := chk_s h
  have k2 := k
  obtain ⟨u0, σ1, k, h⟩ := bnd_s h
  refine x_callV0 (pc := 146) C (mX5_giveCentsLeft E l k) cl4 k2 cX5_117 nX5_giveCentsLeft sX5_giveCentsLeft rfl rfl (Nat.le_of_ble_eq_true rfl) ⟨Nat.le_of_ble_eq_true rfl, Nat.le_of_ble_eq_true rfl, Nat.le_of_ble_eq_true rfl, Nat.le_of_ble_eq_true rfl⟩ dX5_prorate_146 ?_
  cases h
  exact x_vret C hr dX5_prorate_149
def DX5_prorate_119 (l0 : Nat) (σ : Sg) : Option (Unit × Sg) :=
  chk (ckO σ 4 l0) <|
  bnd (DX5_settleFixed l0 σ) fun v1 σ2 =>
  if v1 = 0 then
    chk (ckO σ2 4 l0) <|
    bnd (DX5_raiseToLeasts l0 σ2) fun v3 σ4 =>
    if v3 = 0 then
      chk (ckO σ4 4 l0) <|
      bnd (DX5_lowerToMosts l0 σ4) fun v5 σ6 =>
      if v5 = 0 then
        chk (ckO σ6 4 l0) <|
        bnd (DX5_partAmong l0 (0 : Int32) σ6) fun _ σ7 =>
        DX5_prorate_145 l0 σ7
      else
        DX5_prorate_145 l0 σ6
    else
      DX5_prorate_145 l0 σ4
  else
    DX5_prorate_145 l0 σ2
theorem tX5_prorate_119 {r : Unit} {σ' : Sg} (C : Cx E p s m args meth c RX5 cX5_prorate 2) (hr : meth.sig.returnType = none) {l0 : Nat} {σ : Sg} (h : DX5_prorate_119 l0 σ = some (r, σ')) : Y E p l e (rmA 4 0 0) s m args below meth c none σ' 0 0 2 0 0 σ 119 [some (.ref (ad E l0)), none] [] := by
  unfold DX5_prorate_119 at h
  refine x_aload_n (pc := 119) C dX5_prorate_119 rfl rfl ?_
  obtain ⟨k, h⟩ := chk_s h
  have k2 := k
  obtain ⟨v1, σ2, k, h⟩ := bnd_s h
  refine x_callV1 (pc := 120) C (mX5_settleFixed E l k) cl4 k2 cX5_104 nX5_settleFixed sX5_settleFixed rfl rfl (Nat.le_of_ble_eq_true rfl) ⟨Nat.le_of_ble_eq_true rfl, Nat.le_of_ble_eq_true rfl, Nat.le_of_ble_eq_true rfl, Nat.le_of_ble_eq_true rfl⟩ dX5_prorate_120 ?_
  refine x_if_ne (pc := 123) (tgt := 145) C dX5_prorate_123 (by decide) (fun q => ?_) (fun q => ?_)
  · rw [if_pos q] at h
    refine x_aload_n (pc := 126) C dX5_prorate_126 rfl rfl ?_
    obtain ⟨k, h⟩ := chk_s h
    have k2 := k
    obtain ⟨v3, σ4, k, h⟩ := bnd_s h
    refine x_callV1 (pc := 127) C (mX5_raiseToLeasts E l k) cl4 k2 cX5_108 nX5_raiseToLeasts sX5_raiseToLeasts rfl rfl (Nat.le_of_ble_eq_true rfl) ⟨Nat.le_of_ble_eq_true rfl, Nat.le_of_ble_eq_true rfl, Nat.le_of_ble_eq_true rfl, Nat.le_of_ble_eq_true rfl⟩ dX5_prorate_127 ?_
    refine x_if_ne (pc := 130) (tgt := 145) C dX5_prorate_130 (by decide) (fun q => ?_) (fun q => ?_)
    · rw [if_pos q] at h
      refine x_aload_n (pc := 133) C dX5_prorate_133 rfl rfl ?_
      obtain ⟨k, h⟩ := chk_s h
      have k2 := k
      obtain ⟨v5, σ6, k, h⟩ := bnd_s h
      refine x_callV1 (pc := 134) C (mX5_lowerToMosts E l k) cl4 k2 cX5_111 nX5_lowerToMosts sX5_lowerToMosts rfl rfl (Nat.le_of_ble_eq_true rfl) ⟨Nat.le_of_ble_eq_true rfl, Nat.le_of_ble_eq_true rfl, Nat.le_of_ble_eq_true rfl, Nat.le_of_ble_eq_true rfl⟩ dX5_prorate_134 ?_
      refine x_if_ne (pc := 137) (tgt := 145) C dX5_prorate_137 (by decide) (fun q => ?_) (fun q => ?_)
      · rw [if_pos q] at h
        refine x_aload_n (pc := 140) C dX5_prorate_140 rfl rfl ?_
        refine x_iconst (v := 0) (pc := 141) C dX5_prorate_141 (by decide) ?_
        obtain ⟨k, h⟩ := chk_s h
        have k2 := k
        obtain ⟨u0, σ7, k, h⟩ := bnd_s h
        refine x_callV0 (pc := 142) C (mX5_partAmong E l k) cl4 k2 cX5_114 nX5_partAmong sX5_partAmong rfl rfl (Nat.le_of_ble_eq_true rfl) ⟨Nat.le_of_ble_eq_true rfl, Nat.le_of_ble_eq_true rfl, Nat.le_of_ble_eq_true rfl, Nat.le_of_ble_eq_true rfl⟩ dX5_prorate_142 ?_
        exact x_sub (tX5_prorate_145 C hr h) (xLe_s (xLe_n xLe_0))
      · rw [if_neg q] at h
        exact x_sub (tX5_prorate_145 C hr h) (xLe_s (xLe_n xLe_0))
    · rw [if_neg q] at h
      exact x_sub (tX5_prorate_145 C hr h) (xLe_s (xLe_n xLe_0))
  · rw [if_neg q] at h
    exact x_sub (tX5_prorate_145 C hr h) (xLe_s (xLe_n xLe_0))
def DX5_prorate_23 : Nat → Nat → Int32 → Sg → Option (Unit × Sg)
  | 0, _, _, _ => none
  | n + 1, l0, l1, σ =>
    chk (ckO σ 4 l0) <|
    if (gI σ l0 2) ≤ l1 then
      DX5_prorate_119 l0 σ
    else
      chk (ckO σ 4 l0) <|
      chk (ckV (gR σ l0 7)) <|
      chk (ckO σ 4 l0) <|
      bnd (DX5_provisoHolding l0 l1 σ) fun v1 σ2 =>
      chk (ckI σ2 (gR σ l0 7) l1) <|
      wlet (wI σ2 (gR σ l0 7) l1.toNatClampNeg v1) fun σ3 =>
      chk (ckO σ3 4 l0) <|
      bnd (DX5_weigh l0 l1 σ3) fun _ σ4 =>
      chk (ckO σ4 4 l0) <|
      chk (ckV (gR σ4 l0 11)) <|
      chk (ckO σ4 4 l0) <|
      bnd (DX5_factorOf l0 l1 σ4) fun v5 σ6 =>
      chk (ckJ σ6 (gR σ4 l0 11) l1) <|
      wlet (wJ σ6 (gR σ4 l0 11) l1.toNatClampNeg v5) fun σ7 =>
      chk (ckO σ7 4 l0) <|
      if (gI σ7 l0 3) ≤ l1 then
        chk (ckO σ7 4 l0) <|
        chk (ckV (gR σ7 l0 9)) <|
        chk (ckI σ7 (gR σ7 l0 9) l1) <|
        wlet (wI σ7 (gR σ7 l0 9) l1.toNatClampNeg (0 : Int32)) fun σ8 =>
        chk (ckO σ8 4 l0) <|
        chk (ckV (gR σ8 l0 12)) <|
        chk (ckI σ8 (gR σ8 l0 12) l1) <|
        wlet (wI σ8 (gR σ8 l0 12) l1.toNatClampNeg (0 : Int32)) fun σ9 =>
        chk (ckO σ9 4 l0) <|
        chk (ckV (gR σ9 l0 13)) <|
        chk (ckJ σ9 (gR σ9 l0 13) l1) <|
        wlet (wJ σ9 (gR σ9 l0 13) l1.toNatClampNeg (0 : Int64)) fun σ10 =>
        DX5_prorate_113 (DX5_prorate_23 n) l0 l1 σ10
      else
        chk (ckO σ7 4 l0) <|
        chk (ckV (gR σ7 l0 9)) <|
        chk (ckI σ7 (gR σ7 l0 9) l1) <|
        wlet (wI σ7 (gR σ7 l0 9) l1.toNatClampNeg (5 : Int32)) fun σ11 =>
        chk (ckO σ11 4 l0) <|
        chk (ckO σ11 4 l0) <|
        chk (ckV (gR σ11 l0 12)) <|
        chk (ckI σ11 (gR σ11 l0 12) l1) <|
        chk (ckO σ11 4 l0) <|
        wlet (pJ σ11 l0 15 ((gJ σ11 l0 15) - ((aI σ11 (gR σ11 l0 12) l1.toNatClampNeg).toInt64))) fun σ12 =>
        DX5_prorate_113 (DX5_prorate_23 n) l0 l1 σ12
theorem tX5_prorate_23 {r : Unit} {σ' : Sg} (C : Cx E p s m args meth c RX5 cX5_prorate 2) (hr : meth.sig.returnType = none) : ∀ (n : Nat) (l0 : Nat) (l1 : Int32) (σ : Sg) (h : DX5_prorate_23 n l0 l1 σ = some (r, σ')), Y E p l e (rmA 4 0 0) s m args below meth c none σ' 0 0 2 0 0 σ 23 [some (.ref (ad E l0)), some (.int l1)] [] := by
  intro n
  induction n with
  | zero => intro l0 l1 σ h; cases h
  | succ n ih =>
    intro l0 l1 σ h
    unfold DX5_prorate_23 at h
    refine x_iload_n (pc := 23) C dX5_prorate_23 rfl rfl ?_
    refine x_aload_n (pc := 24) C dX5_prorate_24 rfl rfl ?_
    obtain ⟨k, h⟩ := chk_s h
    refine x_getI (pc := 25) C fX5_15 rfl k dX5_prorate_25 ?_
    refine x_icmp_ge (pc := 28) (tgt := 119) C dX5_prorate_28 (by decide) (fun q => ?_) (fun q => ?_)
    · rw [if_pos q] at h
      exact x_sub (tX5_prorate_119 C hr h) (xLe_s (xLe_n xLe_0))
    · rw [if_neg q] at h
      refine x_aload_n (pc := 31) C dX5_prorate_31 rfl rfl ?_
      obtain ⟨k, h⟩ := chk_s h
      have k2 := k
      obtain ⟨k, h⟩ := chk_s h
      refine x_getR (pc := 32) C fX5_31 rfl k2 k dX5_prorate_32 ?_
      refine x_iload_n (pc := 35) C dX5_prorate_35 rfl rfl ?_
      refine x_aload_n (pc := 36) C dX5_prorate_36 rfl rfl ?_
      refine x_iload_n (pc := 37) C dX5_prorate_37 rfl rfl ?_
      obtain ⟨k, h⟩ := chk_s h
      have k2 := k
      obtain ⟨v1, σ2, k, h⟩ := bnd_s h
      refine x_callV1 (pc := 38) C (mX5_provisoHolding E l k) cl4 k2 cX5_93 nX5_provisoHolding sX5_provisoHolding rfl rfl (Nat.le_of_ble_eq_true rfl) ⟨Nat.le_of_ble_eq_true rfl, Nat.le_of_ble_eq_true rfl, Nat.le_of_ble_eq_true rfl, Nat.le_of_ble_eq_true rfl⟩ dX5_prorate_38 ?_
      obtain ⟨k, h⟩ := chk_s h
      obtain ⟨σ3, e1, h⟩ := wlet_s h
      refine x_iast (pc := 41) C k dX5_prorate_41 (x_eq e1 ?_)
      refine x_aload_n (pc := 42) C dX5_prorate_42 rfl rfl ?_
      refine x_iload_n (pc := 43) C dX5_prorate_43 rfl rfl ?_
      obtain ⟨k, h⟩ := chk_s h
      have k2 := k
      obtain ⟨u0, σ4, k, h⟩ := bnd_s h
      refine x_callV0 (pc := 44) C (mX5_weigh E l k) cl4 k2 cX5_96 nX5_weigh sX5_weigh rfl rfl (Nat.le_of_ble_eq_true rfl) ⟨Nat.le_of_ble_eq_true rfl, Nat.le_of_ble_eq_true rfl, Nat.le_of_ble_eq_true rfl, Nat.le_of_ble_eq_true rfl⟩ dX5_prorate_44 ?_
      refine x_aload_n (pc := 47) C dX5_prorate_47 rfl rfl ?_
      obtain ⟨k, h⟩ := chk_s h
      have k2 := k
      obtain ⟨k, h⟩ := chk_s h
      refine x_getR (pc := 48) C fX5_44 rfl k2 k dX5_prorate_48 ?_
      refine x_iload_n (pc := 51) C dX5_prorate_51 rfl rfl ?_
      refine x_aload_n (pc := 52) C dX5_prorate_52 rfl rfl ?_
      refine x_iload_n (pc := 53) C dX5_prorate_53 rfl rfl ?_
      obtain ⟨k, h⟩ := chk_s h
      have k2 := k
      obtain ⟨v5, σ6, k, h⟩ := bnd_s h
      refine x_callV1 (pc := 54) C (mX5_factorOf E l k) cl4 k2 cX5_100 nX5_factorOf sX5_factorOf rfl rfl (Nat.le_of_ble_eq_true rfl) ⟨Nat.le_of_ble_eq_true rfl, Nat.le_of_ble_eq_true rfl, Nat.le_of_ble_eq_true rfl, Nat.le_of_ble_eq_true rfl⟩ dX5_prorate_54 ?_
      obtain ⟨k, h⟩ := chk_s h
      obtain ⟨σ7, e1, h⟩ := wlet_s h
      refine x_last (pc := 57) C k dX5_prorate_57 (x_eq e1 ?_)
      refine x_iload_n (pc := 58) C dX5_prorate_58 rfl rfl ?_
      refine x_aload_n (pc := 59) C dX5_prorate_59 rfl rfl ?_
      obtain ⟨k, h⟩ := chk_s h
      refine x_getI (pc := 60) C fX5_18 rfl k dX5_prorate_60 ?_
      refine x_icmp_ge (pc := 63) (tgt := 92) C dX5_prorate_63 (by decide) (fun q => ?_) (fun q => ?_)
      · rw [if_pos q] at h
        refine x_aload_n (pc := 92) C dX5_prorate_92 rfl rfl ?_
        obtain ⟨k, h⟩ := chk_s h
        have k2 := k
        obtain ⟨k, h⟩ := chk_s h
        refine x_getR (pc := 93) C fX5_37 rfl k2 k dX5_prorate_93 ?_
        refine x_iload_n (pc := 96) C dX5_prorate_96 rfl rfl ?_
        refine x_iconst (v := 0) (pc := 97) C dX5_prorate_97 (by decide) ?_
        obtain ⟨k, h⟩ := chk_s h
        obtain ⟨σ8, e1, h⟩ := wlet_s h
        refine x_iast (pc := 98) C k dX5_prorate_98 (x_eq e1 ?_)
        refine x_aload_n (pc := 99) C dX5_prorate_99 rfl rfl ?_
        obtain ⟨k, h⟩ := chk_s h
        have k2 := k
        obtain ⟨k, h⟩ := chk_s h
        refine x_getR (pc := 100) C fX5_47 rfl k2 k dX5_prorate_100 ?_
        refine x_iload_n (pc := 103) C dX5_prorate_103 rfl rfl ?_
        refine x_iconst (v := 0) (pc := 104) C dX5_prorate_104 (by decide) ?_
        obtain ⟨k, h⟩ := chk_s h
        obtain ⟨σ9, e1, h⟩ := wlet_s h
        refine x_iast (pc := 105) C k dX5_prorate_105 (x_eq e1 ?_)
        refine x_aload_n (pc := 106) C dX5_prorate_106 rfl rfl ?_
        obtain ⟨k, h⟩ := chk_s h
        have k2 := k
        obtain ⟨k, h⟩ := chk_s h
        refine x_getR (pc := 107) C fX5_50 rfl k2 k dX5_prorate_107 ?_
        refine x_iload_n (pc := 110) C dX5_prorate_110 rfl rfl ?_
        refine x_lconst (v := 0) (pc := 111) C dX5_prorate_111 (by decide) ?_
        obtain ⟨k, h⟩ := chk_s h
        obtain ⟨σ10, e1, h⟩ := wlet_s h
        refine x_last (pc := 112) C k dX5_prorate_112 (x_eq e1 ?_)
        exact x_sub (tX5_prorate_113 C hr ih h) (xLe_s (xLe_s xLe_0))
      · rw [if_neg q] at h
        refine x_aload_n (pc := 66) C dX5_prorate_66 rfl rfl ?_
        obtain ⟨k, h⟩ := chk_s h
        have k2 := k
        obtain ⟨k, h⟩ := chk_s h
        refine x_getR (pc := 67) C fX5_37 rfl k2 k dX5_prorate_67 ?_
        refine x_iload_n (pc := 70) C dX5_prorate_70 rfl rfl ?_
        refine x_iconst (v := 5) (pc := 71) C dX5_prorate_71 (by decide) ?_
        obtain ⟨k, h⟩ := chk_s h
        obtain ⟨σ11, e1, h⟩ := wlet_s h
        refine x_iast (pc := 72) C k dX5_prorate_72 (x_eq e1 ?_)
        refine x_aload_n (pc := 73) C dX5_prorate_73 rfl rfl ?_
        refine x_dup (pc := 74) C dX5_prorate_74 rfl ?_
        obtain ⟨k, h⟩ := chk_s h
        refine x_getJ (pc := 75) C fX5_57 rfl k dX5_prorate_75 ?_
        refine x_aload_n (pc := 78) C dX5_prorate_78 rfl rfl ?_
        obtain ⟨k, h⟩ := chk_s h
        have k2 := k
        obtain ⟨k, h⟩ := chk_s h
        refine x_getR (pc := 79) C fX5_47 rfl k2 k dX5_prorate_79 ?_
        refine x_iload_n (pc := 82) C dX5_prorate_82 rfl rfl ?_
        obtain ⟨k, h⟩ := chk_s h
        refine x_iald (pc := 83) C k dX5_prorate_83 ?_
        refine x_i2l (pc := 84) C dX5_prorate_84 ?_
        refine x_lsub (pc := 85) C dX5_prorate_85 ?_
        obtain ⟨k, h⟩ := chk_s h
        obtain ⟨σ12, e1, h⟩ := wlet_s h
        refine x_putJ (pc := 86) C pX5_57 rfl k dX5_prorate_86 (x_eq e1 ?_)
        refine x_goto (tgt := 113) (pc := 89) C dX5_prorate_89 (by decide) ?_
        exact x_sub (tX5_prorate_113 C hr ih h) (xLe_s (xLe_s xLe_0))
def DX5_prorate (l0 : Nat) (σ : Sg) : Option (Unit × Sg) :=
  chk (ckO σ 4 l0) <|
  wlet (pI σ l0 16 (0 : Int32)) fun σ1 =>
  chk (ckO σ1 4 l0) <|
  chk (ckV (gR σ1 l0 0)) <|
  chk (ckO σ1 4 l0) <|
  chk (ckO σ1 0 (gR σ1 l0 0)) <|
  bnd (DX1_fareOf (gR σ1 l0 0) (gI σ1 l0 1) σ1) fun v2 σ3 =>
  chk (ckO σ3 4 l0) <|
  wlet (pJ σ3 l0 15 v2.toInt64) fun σ4 =>
  DX5_prorate_23 FU l0 (0 : Int32) σ4
theorem mX5_prorate (E : Ev) (l : Launch) {l0 : Nat} {σ : Sg} {r : Unit} {σ' : Sg} (h : DX5_prorate l0 σ = some (r, σ')) : Mt E l yX5_prorate cX5_prorate 2 none 4 0 0 [.ref (ad E l0)] σ none σ' := by
  refine Mt.ofX (by decide) (Nat.le_of_ble_eq_true rfl) (L0 := [some (.ref (ad E l0)), none]) (xEntN_ok [.ref (ad E l0)] 2) (fun p e s m args below meth c C hr hn => ?_)
  unfold DX5_prorate at h
  refine x_aload_n (pc := 0) C dX5_prorate_0 rfl rfl ?_
  refine x_iconst (v := 0) (pc := 1) C dX5_prorate_1 (by decide) ?_
  obtain ⟨k, h⟩ := chk_s h
  obtain ⟨σ1, e1, h⟩ := wlet_s h
  refine x_putI (pc := 2) C pX5_61 rfl k dX5_prorate_2 (x_eq e1 ?_)
  refine x_aload_n (pc := 5) C dX5_prorate_5 rfl rfl ?_
  refine x_aload_n (pc := 6) C dX5_prorate_6 rfl rfl ?_
  obtain ⟨k, h⟩ := chk_s h
  have k2 := k
  obtain ⟨k, h⟩ := chk_s h
  refine x_getR (pc := 7) C fX5_67 rfl k2 k dX5_prorate_7 ?_
  refine x_aload_n (pc := 10) C dX5_prorate_10 rfl rfl ?_
  obtain ⟨k, h⟩ := chk_s h
  refine x_getI (pc := 11) C fX5_9 rfl k dX5_prorate_11 ?_
  obtain ⟨k, h⟩ := chk_s h
  have k2 := k
  obtain ⟨v2, σ3, k, h⟩ := bnd_s h
  refine x_callV1 (pc := 14) C (mX1_fareOf E l k) cl0 k2 cX5_90 nX1_fareOf sX1_fareOf rfl rfl (Nat.le_of_ble_eq_true rfl) ⟨Nat.le_of_ble_eq_true rfl, Nat.le_of_ble_eq_true rfl, Nat.le_of_ble_eq_true rfl, Nat.le_of_ble_eq_true rfl⟩ dX5_prorate_14 ?_
  refine x_i2l (pc := 17) C dX5_prorate_17 ?_
  obtain ⟨k, h⟩ := chk_s h
  obtain ⟨σ4, e1, h⟩ := wlet_s h
  refine x_putJ (pc := 18) C pX5_57 rfl k dX5_prorate_18 (x_eq e1 ?_)
  refine x_iconst (v := 0) (pc := 21) C dX5_prorate_21 (by decide) ?_
  refine x_istore_n (M := [some _, some _]) (pc := 22) C dX5_prorate_22 rfl (by decide) rfl ?_
  exact x_sub (tX5_prorate_23 C hr FU _ _ _ h) (xLe_s (xLe_s xLe_0))
end

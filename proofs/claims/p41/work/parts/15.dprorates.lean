section
variable {E : Ev} {p : Program} {l : Launch} {e : Env} {s : State} {m : MethodId} {args : Array Value} {below : List Frame} {meth : Method} {c : Code}
def DX7_init (l0 : Nat) (σ : Sg) : Option (Unit × Sg) :=
  chk (ckW σ 2 1200 0) <|
  bnd (some (gN σ, mk1 σ)) fun a2 σ1 =>
  chk (ckO σ1 5 l0) <|
  chk (ckV a2) <|
  wlet (pR σ1 l0 0 a2) fun σ3 =>
  chk (ckO σ3 5 l0) <|
  wlet (pI σ3 l0 1 (0 : Int32)) fun σ4 =>
  chk (ckW σ4 1 0 0) <|
  bnd (some (gN σ4, mk1 σ4)) fun a6 σ5 =>
  bnd (DX1_init a6 σ5) fun _ σ7 =>
  chk (ckO σ7 5 l0) <|
  chk (ckV a6) <|
  wlet (pR σ7 l0 2 a6) fun σ8 =>
  chk (ckW σ8 1 0 0) <|
  bnd (some (gN σ8, mk1 σ8)) fun a10 σ9 =>
  bnd (DX1_init a10 σ9) fun _ σ11 =>
  chk (ckO σ11 5 l0) <|
  chk (ckV a10) <|
  wlet (pR σ11 l0 3 a10) fun σ12 =>
  chk (ckW σ12 1 2 0) <|
  bnd (some (gN σ12, mk1 σ12)) fun a14 σ13 =>
  chk (ckO σ13 5 l0) <|
  chk (ckV (gR σ13 l0 0)) <|
  chk (ckO σ13 5 l0) <|
  chk (ckV (gR σ13 l0 3)) <|
  bnd (DX3_init a14 (gR σ13 l0 0) (gR σ13 l0 3) σ13) fun _ σ15 =>
  chk (ckO σ15 5 l0) <|
  chk (ckV a14) <|
  wlet (pR σ15 l0 4 a14) fun σ16 =>
  chk (ckW σ16 1 1 0) <|
  bnd (some (gN σ16, mk1 σ16)) fun a18 σ17 =>
  bnd (DX2_init a18 σ17) fun _ σ19 =>
  chk (ckO σ19 5 l0) <|
  chk (ckV a18) <|
  wlet (pR σ19 l0 5 a18) fun σ20 =>
  chk (ckW σ20 1 4 0) <|
  bnd (some (gN σ20, mk1 σ20)) fun a22 σ21 =>
  chk (ckO σ21 5 l0) <|
  chk (ckV (gR σ21 l0 2)) <|
  bnd (DX5_init a22 (gR σ21 l0 2) σ21) fun _ σ23 =>
  chk (ckO σ23 5 l0) <|
  chk (ckV a22) <|
  wlet (pR σ23 l0 6 a22) fun σ24 =>
  chk (ckW σ24 1 3 0) <|
  bnd (some (gN σ24, mk1 σ24)) fun a26 σ25 =>
  bnd (DX4_init a26 σ25) fun _ σ27 =>
  chk (ckO σ27 5 l0) <|
  chk (ckV a26) <|
  wlet (pR σ27 l0 7 a26) fun σ28 =>
  chk (ckW σ28 2 8 0) <|
  bnd (some (gN σ28, mk1 σ28)) fun a30 σ29 =>
  chk (ckO σ29 5 l0) <|
  chk (ckV a30) <|
  wlet (pR σ29 l0 8 a30) fun σ31 =>
  chk (ckW σ31 2 6 0) <|
  bnd (some (gN σ31, mk1 σ31)) fun a33 σ32 =>
  chk (ckO σ32 5 l0) <|
  chk (ckV a33) <|
  wlet (pR σ32 l0 9 a33) fun σ34 =>
  some ((), σ34)
theorem mX7_init (E : Ev) (l : Launch) {l0 : Nat} {σ : Sg} {r : Unit} {σ' : Sg} (h : DX7_init l0 σ = some (r, σ')) : Mt E l yX7_init cX7_init 1 none 2 259 3645 [.ref (ad E l0)] σ none σ' := by
  refine Mt.ofX (by decide) (Nat.le_of_ble_eq_true rfl) (L0 := [some (.ref (ad E l0))]) (xEntN_ok [.ref (ad E l0)] 1) (fun p e s m args below meth c C hr hn => ?_)
  unfold DX7_init at h
  refine x_aload_n (pc := 0) C dX7_init_0 rfl rfl ?_
  refine x_objInit (pc := 1) C oX7_1 oi1 oi2 ⟨Nat.le_of_ble_eq_true rfl, Nat.le_of_ble_eq_true rfl⟩ dX7_init_1 ?_
  refine x_aload_n (pc := 4) C dX7_init_4 rfl rfl ?_
  refine x_sipush (v := 1200) (pc := 5) C dX7_init_5 (by decide) ?_
  obtain ⟨k, h⟩ := chk_s h
  have k2 := k
  obtain ⟨a2, σ1, e1, h⟩ := bnd_s h
  refine x_newI (N := 1200) (pc := 8) C aaI (by decide) (by decide) k2 (by decide) ⟨Nat.le_of_ble_eq_true rfl, Nat.le_of_ble_eq_true rfl⟩ dX7_init_8 (x_mkE e1 ?_)
  obtain ⟨k, h⟩ := chk_s h
  have k2 := k
  obtain ⟨k, h⟩ := chk_s h
  obtain ⟨σ3, e1, h⟩ := wlet_s h
  refine x_putQ (pc := 10) C qX7_9 hn (Or.inr ⟨_, rfl⟩) k2 k dX7_init_10 (x_eq e1 ?_)
  refine x_aload_n (pc := 13) C dX7_init_13 rfl rfl ?_
  refine x_iconst (v := 0) (pc := 14) C dX7_init_14 (by decide) ?_
  obtain ⟨k, h⟩ := chk_s h
  obtain ⟨σ4, e1, h⟩ := wlet_s h
  refine x_putI (pc := 15) C pX7_13 rfl k dX7_init_15 (x_eq e1 ?_)
  refine x_aload_n (pc := 18) C dX7_init_18 rfl rfl ?_
  obtain ⟨k, h⟩ := chk_s h
  have k2 := k
  obtain ⟨a6, σ5, e1, h⟩ := bnd_s h
  refine x_new (pc := 19) C cl0 wX7_17.1 wX7_17.2.1 wX7_17.2.2 df0 k2 ⟨Nat.le_of_ble_eq_true rfl, Nat.le_of_ble_eq_true rfl⟩ dX7_init_19 (x_mkE e1 ?_)
  refine x_dup (pc := 22) C dX7_init_22 rfl ?_
  obtain ⟨u0, σ7, k, h⟩ := bnd_s h
  refine x_callI0 (pc := 23) C (mX1_init E l k) cX7_19 rfl nX1_init rfl rfl (Nat.le_of_ble_eq_true rfl) ⟨Nat.le_of_ble_eq_true rfl, Nat.le_of_ble_eq_true rfl, Nat.le_of_ble_eq_true rfl, Nat.le_of_ble_eq_true rfl⟩ dX7_init_23 ?_
  obtain ⟨k, h⟩ := chk_s h
  have k2 := k
  obtain ⟨k, h⟩ := chk_s h
  obtain ⟨σ8, e1, h⟩ := wlet_s h
  refine x_putR (pc := 26) C pX7_20 (Or.inl ⟨_, rfl⟩) k2 k dX7_init_26 (x_eq e1 ?_)
  refine x_aload_n (pc := 29) C dX7_init_29 rfl rfl ?_
  obtain ⟨k, h⟩ := chk_s h
  have k2 := k
  obtain ⟨a10, σ9, e1, h⟩ := bnd_s h
  refine x_new (pc := 30) C cl0 wX7_17.1 wX7_17.2.1 wX7_17.2.2 df0 k2 ⟨Nat.le_of_ble_eq_true rfl, Nat.le_of_ble_eq_true rfl⟩ dX7_init_30 (x_mkE e1 ?_)
  refine x_dup (pc := 33) C dX7_init_33 rfl ?_
  obtain ⟨u0, σ11, k, h⟩ := bnd_s h
  refine x_callI0 (pc := 34) C (mX1_init E l k) cX7_19 rfl nX1_init rfl rfl (Nat.le_of_ble_eq_true rfl) ⟨Nat.le_of_ble_eq_true rfl, Nat.le_of_ble_eq_true rfl, Nat.le_of_ble_eq_true rfl, Nat.le_of_ble_eq_true rfl⟩ dX7_init_34 ?_
  obtain ⟨k, h⟩ := chk_s h
  have k2 := k
  obtain ⟨k, h⟩ := chk_s h
  obtain ⟨σ12, e1, h⟩ := wlet_s h
  refine x_putR (pc := 37) C pX7_24 (Or.inl ⟨_, rfl⟩) k2 k dX7_init_37 (x_eq e1 ?_)
  refine x_aload_n (pc := 40) C dX7_init_40 rfl rfl ?_
  obtain ⟨k, h⟩ := chk_s h
  have k2 := k
  obtain ⟨a14, σ13, e1, h⟩ := bnd_s h
  refine x_new (pc := 41) C cl2 wX7_27.1 wX7_27.2.1 wX7_27.2.2 df2 k2 ⟨Nat.le_of_ble_eq_true rfl, Nat.le_of_ble_eq_true rfl⟩ dX7_init_41 (x_mkE e1 ?_)
  refine x_dup (pc := 44) C dX7_init_44 rfl ?_
  refine x_aload_n (pc := 45) C dX7_init_45 rfl rfl ?_
  obtain ⟨k, h⟩ := chk_s h
  have k2 := k
  obtain ⟨k, h⟩ := chk_s h
  refine x_getR (pc := 46) C fX7_9 rfl k2 k dX7_init_46 ?_
  refine x_aload_n (pc := 49) C dX7_init_49 rfl rfl ?_
  obtain ⟨k, h⟩ := chk_s h
  have k2 := k
  obtain ⟨k, h⟩ := chk_s h
  refine x_getR (pc := 50) C fX7_24 rfl k2 k dX7_init_50 ?_
  obtain ⟨u0, σ15, k, h⟩ := bnd_s h
  refine x_callI0 (pc := 53) C (mX3_init E l k) cX7_29 rfl nX3_init rfl rfl (Nat.le_of_ble_eq_true rfl) ⟨Nat.le_of_ble_eq_true rfl, Nat.le_of_ble_eq_true rfl, Nat.le_of_ble_eq_true rfl, Nat.le_of_ble_eq_true rfl⟩ dX7_init_53 ?_
  obtain ⟨k, h⟩ := chk_s h
  have k2 := k
  obtain ⟨k, h⟩ := chk_s h
  obtain ⟨σ16, e1, h⟩ := wlet_s h
  refine x_putQ (pc := 56) C qX7_32 hn (Or.inl ⟨_, rfl⟩) k2 k dX7_init_56 (x_eq e1 ?_)
  refine x_aload_n (pc := 59) C dX7_init_59 rfl rfl ?_
  obtain ⟨k, h⟩ := chk_s h
  have k2 := k
  obtain ⟨a18, σ17, e1, h⟩ := bnd_s h
  refine x_new (pc := 60) C cl1 wX7_36.1 wX7_36.2.1 wX7_36.2.2 df1 k2 ⟨Nat.le_of_ble_eq_true rfl, Nat.le_of_ble_eq_true rfl⟩ dX7_init_60 (x_mkE e1 ?_)
  refine x_dup (pc := 63) C dX7_init_63 rfl ?_
  obtain ⟨u0, σ19, k, h⟩ := bnd_s h
  refine x_callI0 (pc := 64) C (mX2_init E l k) cX7_38 rfl nX2_init rfl rfl (Nat.le_of_ble_eq_true rfl) ⟨Nat.le_of_ble_eq_true rfl, Nat.le_of_ble_eq_true rfl, Nat.le_of_ble_eq_true rfl, Nat.le_of_ble_eq_true rfl⟩ dX7_init_64 ?_
  obtain ⟨k, h⟩ := chk_s h
  have k2 := k
  obtain ⟨k, h⟩ := chk_s h
  obtain ⟨σ20, e1, h⟩ := wlet_s h
  refine x_putQ (pc := 67) C qX7_39 hn (Or.inl ⟨_, rfl⟩) k2 k dX7_init_67 (x_eq e1 ?_)
  refine x_aload_n (pc := 70) C dX7_init_70 rfl rfl ?_
  obtain ⟨k, h⟩ := chk_s h
  have k2 := k
  obtain ⟨a22, σ21, e1, h⟩ := bnd_s h
  refine x_new (pc := 71) C cl4 wX7_43.1 wX7_43.2.1 wX7_43.2.2 df4 k2 ⟨Nat.le_of_ble_eq_true rfl, Nat.le_of_ble_eq_true rfl⟩ dX7_init_71 (x_mkE e1 ?_)
  refine x_dup (pc := 74) C dX7_init_74 rfl ?_
  refine x_aload_n (pc := 75) C dX7_init_75 rfl rfl ?_
  obtain ⟨k, h⟩ := chk_s h
  have k2 := k
  obtain ⟨k, h⟩ := chk_s h
  refine x_getR (pc := 76) C fX7_20 rfl k2 k dX7_init_76 ?_
  obtain ⟨u0, σ23, k, h⟩ := bnd_s h
  refine x_callI0 (pc := 79) C (mX5_init E l k) cX7_45 rfl nX5_init rfl rfl (Nat.le_of_ble_eq_true rfl) ⟨Nat.le_of_ble_eq_true rfl, Nat.le_of_ble_eq_true rfl, Nat.le_of_ble_eq_true rfl, Nat.le_of_ble_eq_true rfl⟩ dX7_init_79 ?_
  obtain ⟨k, h⟩ := chk_s h
  have k2 := k
  obtain ⟨k, h⟩ := chk_s h
  obtain ⟨σ24, e1, h⟩ := wlet_s h
  refine x_putQ (pc := 82) C qX7_48 hn (Or.inl ⟨_, rfl⟩) k2 k dX7_init_82 (x_eq e1 ?_)
  refine x_aload_n (pc := 85) C dX7_init_85 rfl rfl ?_
  obtain ⟨k, h⟩ := chk_s h
  have k2 := k
  obtain ⟨a26, σ25, e1, h⟩ := bnd_s h
  refine x_new (pc := 86) C cl3 wX7_52.1 wX7_52.2.1 wX7_52.2.2 df3 k2 ⟨Nat.le_of_ble_eq_true rfl, Nat.le_of_ble_eq_true rfl⟩ dX7_init_86 (x_mkE e1 ?_)
  refine x_dup (pc := 89) C dX7_init_89 rfl ?_
  obtain ⟨u0, σ27, k, h⟩ := bnd_s h
  refine x_callI0 (pc := 90) C (mX4_init E l k) cX7_54 rfl nX4_init rfl rfl (Nat.le_of_ble_eq_true rfl) ⟨Nat.le_of_ble_eq_true rfl, Nat.le_of_ble_eq_true rfl, Nat.le_of_ble_eq_true rfl, Nat.le_of_ble_eq_true rfl⟩ dX7_init_90 ?_
  obtain ⟨k, h⟩ := chk_s h
  have k2 := k
  obtain ⟨k, h⟩ := chk_s h
  obtain ⟨σ28, e1, h⟩ := wlet_s h
  refine x_putQ (pc := 93) C qX7_55 hn (Or.inl ⟨_, rfl⟩) k2 k dX7_init_93 (x_eq e1 ?_)
  refine x_aload_n (pc := 96) C dX7_init_96 rfl rfl ?_
  refine x_bipush (v := 8) (pc := 97) C dX7_init_97 (by decide) ?_
  obtain ⟨k, h⟩ := chk_s h
  have k2 := k
  obtain ⟨a30, σ29, e1, h⟩ := bnd_s h
  refine x_newI (N := 8) (pc := 99) C aaI (by decide) (by decide) k2 (by decide) ⟨Nat.le_of_ble_eq_true rfl, Nat.le_of_ble_eq_true rfl⟩ dX7_init_99 (x_mkE e1 ?_)
  obtain ⟨k, h⟩ := chk_s h
  have k2 := k
  obtain ⟨k, h⟩ := chk_s h
  obtain ⟨σ31, e1, h⟩ := wlet_s h
  refine x_putQ (pc := 101) C qX7_59 hn (Or.inr ⟨_, rfl⟩) k2 k dX7_init_101 (x_eq e1 ?_)
  refine x_aload_n (pc := 104) C dX7_init_104 rfl rfl ?_
  refine x_bipush (v := 6) (pc := 105) C dX7_init_105 (by decide) ?_
  obtain ⟨k, h⟩ := chk_s h
  have k2 := k
  obtain ⟨a33, σ32, e1, h⟩ := bnd_s h
  refine x_newI (N := 6) (pc := 107) C aaI (by decide) (by decide) k2 (by decide) ⟨Nat.le_of_ble_eq_true rfl, Nat.le_of_ble_eq_true rfl⟩ dX7_init_107 (x_mkE e1 ?_)
  obtain ⟨k, h⟩ := chk_s h
  have k2 := k
  obtain ⟨k, h⟩ := chk_s h
  obtain ⟨σ34, e1, h⟩ := wlet_s h
  refine x_putQ (pc := 109) C qX7_62 hn (Or.inr ⟨_, rfl⟩) k2 k dX7_init_109 (x_eq e1 ?_)
  cases h
  exact x_vret C hr dX7_init_112
def DX7_feedNumber_45 (K3 : Nat → Int32 → Int32 → Sg → Option (Unit × Sg)) (l0 : Nat) (l1 : Int32) (l2 : Int32) (σ : Sg) : Option (Unit × Sg) :=
  K3 l0 l1 (l2 + (-8 : Int32)) σ
theorem tX7_feedNumber_45 {r : Unit} {σ' : Sg} (C : Cx E p s m args meth c RX7 cX7_feedNumber 3) (hr : meth.sig.returnType = none) {K3 : Nat → Int32 → Int32 → Sg → Option (Unit × Sg)} (hK3 : ∀ (l0 : Nat) (l1 : Int32) (l2 : Int32) (σ : Sg), K3 l0 l1 l2 σ = some (r, σ') → Y E p l e (rmA 1 0 0) s m args below meth c none σ' 0 0 3 0 0 σ 3 [some (.ref (ad E l0)), some (.int l1), some (.int l2)] []) {l0 : Nat} {l1 : Int32} {l2 : Int32} {σ : Sg} (h : DX7_feedNumber_45 K3 l0 l1 l2 σ = some (r, σ')) : Y E p l e (rmA 1 0 0) s m args below meth c none σ' 0 0 3 0 0 σ 45 [some (.ref (ad E l0)), some (.int l1), some (.int l2)] [] := by
  unfold DX7_feedNumber_45 at h
  refine x_iinc (v := -8) (M := [some _, some _, some _]) (pc := 45) C dX7_feedNumber_45 rfl (by decide) (by decide) rfl ?_
  refine x_goto (tgt := 3) (pc := 48) C dX7_feedNumber_48 (by decide) ?_
  exact x_sub (hK3 _ _ _ _ h) (xLe_s (xLe_s (xLe_s xLe_0)))
def DX7_feedNumber_51 (σ : Sg) : Option (Unit × Sg) :=
  some ((), σ)
theorem tX7_feedNumber_51 {r : Unit} {σ' : Sg} (C : Cx E p s m args meth c RX7 cX7_feedNumber 3) (hr : meth.sig.returnType = none) {σ : Sg} (h : DX7_feedNumber_51  σ = some (r, σ')) : Y E p l e (rmA 1 0 0) s m args below meth c none σ' 0 0 3 0 0 σ 51 [none, none, none] [] := by
  unfold DX7_feedNumber_51 at h
  cases h
  exact x_vret C hr dX7_feedNumber_51
def DX7_feedNumber_3 : Nat → Nat → Int32 → Int32 → Sg → Option (Unit × Sg)
  | 0, _, _, _, _ => none
  | n + 1, l0, l1, l2, σ =>
    if l2 < 0 then
      DX7_feedNumber_51 σ
    else
      chk (ckO σ 5 l0) <|
      chk (ckO σ 5 l0) <|
      chk (ckV (gR σ l0 0)) <|
      chk (ckL σ (gR σ l0 0)) <|
      if (nI (shp (gR σ l0 0)).2.1) ≤ (gI σ l0 1) then
        DX7_feedNumber_45 (DX7_feedNumber_3 n) l0 l1 l2 σ
      else
        chk (ckO σ 5 l0) <|
        chk (ckV (gR σ l0 0)) <|
        chk (ckO σ 5 l0) <|
        chk (ckI σ (gR σ l0 0) (gI σ l0 1)) <|
        wlet (wI σ (gR σ l0 0) (gI σ l0 1).toNatClampNeg ((l1 >>> (l2 &&& 31)) &&& (255 : Int32))) fun σ1 =>
        chk (ckO σ1 5 l0) <|
        chk (ckO σ1 5 l0) <|
        wlet (pI σ1 l0 1 ((gI σ1 l0 1) + (1 : Int32))) fun σ2 =>
        DX7_feedNumber_45 (DX7_feedNumber_3 n) l0 l1 l2 σ2
theorem tX7_feedNumber_3 {r : Unit} {σ' : Sg} (C : Cx E p s m args meth c RX7 cX7_feedNumber 3) (hr : meth.sig.returnType = none) : ∀ (n : Nat) (l0 : Nat) (l1 : Int32) (l2 : Int32) (σ : Sg) (h : DX7_feedNumber_3 n l0 l1 l2 σ = some (r, σ')), Y E p l e (rmA 1 0 0) s m args below meth c none σ' 0 0 3 0 0 σ 3 [some (.ref (ad E l0)), some (.int l1), some (.int l2)] [] := by
  intro n
  induction n with
  | zero => intro l0 l1 l2 σ h; cases h
  | succ n ih =>
    intro l0 l1 l2 σ h
    unfold DX7_feedNumber_3 at h
    refine x_iload_n (pc := 3) C dX7_feedNumber_3 rfl rfl ?_
    refine x_if_lt (pc := 4) (tgt := 51) C dX7_feedNumber_4 (by decide) (fun q => ?_) (fun q => ?_)
    · rw [if_pos q] at h
      exact x_sub (tX7_feedNumber_51 C hr h) (xLe_n (xLe_n (xLe_n xLe_0)))
    · rw [if_neg q] at h
      refine x_aload_n (pc := 7) C dX7_feedNumber_7 rfl rfl ?_
      obtain ⟨k, h⟩ := chk_s h
      refine x_getI (pc := 8) C fX7_13 rfl k dX7_feedNumber_8 ?_
      refine x_aload_n (pc := 11) C dX7_feedNumber_11 rfl rfl ?_
      obtain ⟨k, h⟩ := chk_s h
      have k2 := k
      obtain ⟨k, h⟩ := chk_s h
      refine x_getR (pc := 12) C fX7_9 rfl k2 k dX7_feedNumber_12 ?_
      obtain ⟨k, h⟩ := chk_s h
      refine x_alen (pc := 15) C k dX7_feedNumber_15 ?_
      refine x_icmp_ge (pc := 16) (tgt := 45) C dX7_feedNumber_16 (by decide) (fun q => ?_) (fun q => ?_)
      · rw [if_pos q] at h
        exact x_sub (tX7_feedNumber_45 C hr ih h) (xLe_s (xLe_s (xLe_s xLe_0)))
      · rw [if_neg q] at h
        refine x_aload_n (pc := 19) C dX7_feedNumber_19 rfl rfl ?_
        obtain ⟨k, h⟩ := chk_s h
        have k2 := k
        obtain ⟨k, h⟩ := chk_s h
        refine x_getR (pc := 20) C fX7_9 rfl k2 k dX7_feedNumber_20 ?_
        refine x_aload_n (pc := 23) C dX7_feedNumber_23 rfl rfl ?_
        obtain ⟨k, h⟩ := chk_s h
        refine x_getI (pc := 24) C fX7_13 rfl k dX7_feedNumber_24 ?_
        refine x_iload_n (pc := 27) C dX7_feedNumber_27 rfl rfl ?_
        refine x_iload_n (pc := 28) C dX7_feedNumber_28 rfl rfl ?_
        refine x_ishr (pc := 29) C dX7_feedNumber_29 ?_
        refine x_sipush (v := 255) (pc := 30) C dX7_feedNumber_30 (by decide) ?_
        refine x_iand (pc := 33) C dX7_feedNumber_33 ?_
        obtain ⟨k, h⟩ := chk_s h
        obtain ⟨σ1, e1, h⟩ := wlet_s h
        refine x_iast (pc := 34) C k dX7_feedNumber_34 (x_eq e1 ?_)
        refine x_aload_n (pc := 35) C dX7_feedNumber_35 rfl rfl ?_
        refine x_dup (pc := 36) C dX7_feedNumber_36 rfl ?_
        obtain ⟨k, h⟩ := chk_s h
        refine x_getI (pc := 37) C fX7_13 rfl k dX7_feedNumber_37 ?_
        refine x_iconst (v := 1) (pc := 40) C dX7_feedNumber_40 (by decide) ?_
        refine x_iadd (pc := 41) C dX7_feedNumber_41 ?_
        obtain ⟨k, h⟩ := chk_s h
        obtain ⟨σ2, e1, h⟩ := wlet_s h
        refine x_putI (pc := 42) C pX7_13 rfl k dX7_feedNumber_42 (x_eq e1 ?_)
        exact x_sub (tX7_feedNumber_45 C hr ih h) (xLe_s (xLe_s (xLe_s xLe_0)))
def DX7_feedNumber (l0 : Nat) (l1 : Int32) (σ : Sg) : Option (Unit × Sg) :=
  DX7_feedNumber_3 FU l0 l1 (24 : Int32) σ
theorem mX7_feedNumber (E : Ev) (l : Launch) {l0 : Nat} {l1 : Int32} {σ : Sg} {r : Unit} {σ' : Sg} (h : DX7_feedNumber l0 l1 σ = some (r, σ')) : Mt E l yX7_feedNumber cX7_feedNumber 3 none 1 0 0 [.ref (ad E l0), .int l1] σ none σ' := by
  refine Mt.ofX (by decide) (Nat.le_of_ble_eq_true rfl) (L0 := [some (.ref (ad E l0)), some (.int l1), none]) (xEntN_ok [.ref (ad E l0), .int l1] 3) (fun p e s m args below meth c C hr hn => ?_)
  unfold DX7_feedNumber at h
  refine x_bipush (v := 24) (pc := 0) C dX7_feedNumber_0 (by decide) ?_
  refine x_istore_n (M := [some _, some _, some _]) (pc := 2) C dX7_feedNumber_2 rfl (by decide) rfl ?_
  exact x_sub (tX7_feedNumber_3 C hr FU _ _ _ _ h) (xLe_s (xLe_s (xLe_s xLe_0)))
def DX7_feed (l0 : Nat) (l1 : Int32) (l2 : Int32) (l3 : Int32) (l4 : Int32) (l5 : Int32) (σ : Sg) : Option (Int32 × Sg) :=
  chk (ckO σ 5 l0) <|
  if ((gI σ l0 1) + (20 : Int32)) ≤ (1200 : Int32) then
    chk (ckO σ 5 l0) <|
    bnd (DX7_feedNumber l0 l1 σ) fun _ σ1 =>
    chk (ckO σ1 5 l0) <|
    bnd (DX7_feedNumber l0 l2 σ1) fun _ σ2 =>
    chk (ckO σ2 5 l0) <|
    bnd (DX7_feedNumber l0 l3 σ2) fun _ σ3 =>
    chk (ckO σ3 5 l0) <|
    bnd (DX7_feedNumber l0 l4 σ3) fun _ σ4 =>
    chk (ckO σ4 5 l0) <|
    bnd (DX7_feedNumber l0 l5 σ4) fun _ σ5 =>
    chk (ckO σ5 5 l0) <|
    some ((gI σ5 l0 1), σ5)
  else
    some ((-1 : Int32), σ)
theorem mX7_feed (E : Ev) (l : Launch) {l0 : Nat} {l1 : Int32} {l2 : Int32} {l3 : Int32} {l4 : Int32} {l5 : Int32} {σ : Sg} {r : Int32} {σ' : Sg} (h : DX7_feed l0 l1 l2 l3 l4 l5 σ = some (r, σ')) : Mt E l yX7_feed cX7_feed 6 (some .int) 2 0 0 [.ref (ad E l0), .int l1, .int l2, .int l3, .int l4, .int l5] σ (some (.int r)) σ' := by
  refine Mt.ofX (by decide) (Nat.le_of_ble_eq_true rfl) (L0 := [some (.ref (ad E l0)), some (.int l1), some (.int l2), some (.int l3), some (.int l4), some (.int l5)]) (xEntN_ok [.ref (ad E l0), .int l1, .int l2, .int l3, .int l4, .int l5] 6) (fun p e s m args below meth c C hr hn => ?_)
  unfold DX7_feed at h
  refine x_aload_n (pc := 0) C dX7_feed_0 rfl rfl ?_
  obtain ⟨k, h⟩ := chk_s h
  refine x_getI (pc := 1) C fX7_13 rfl k dX7_feed_1 ?_
  refine x_bipush (v := 20) (pc := 4) C dX7_feed_4 (by decide) ?_
  refine x_iadd (pc := 6) C dX7_feed_6 ?_
  refine x_sipush (v := 1200) (pc := 7) C dX7_feed_7 (by decide) ?_
  refine x_icmp_le (pc := 10) (tgt := 15) C dX7_feed_10 (by decide) (fun q => ?_) (fun q => ?_)
  · rw [if_pos q] at h
    refine x_aload_n (pc := 15) C dX7_feed_15 rfl rfl ?_
    refine x_iload_n (pc := 16) C dX7_feed_16 rfl rfl ?_
    obtain ⟨k, h⟩ := chk_s h
    have k2 := k
    obtain ⟨u0, σ1, k, h⟩ := bnd_s h
    refine x_callV0 (pc := 17) C (mX7_feedNumber E l k) cl5 k2 cX7_65 nX7_feedNumber sX7_feedNumber rfl rfl (Nat.le_of_ble_eq_true rfl) ⟨Nat.le_of_ble_eq_true rfl, Nat.le_of_ble_eq_true rfl, Nat.le_of_ble_eq_true rfl, Nat.le_of_ble_eq_true rfl⟩ dX7_feed_17 ?_
    refine x_aload_n (pc := 20) C dX7_feed_20 rfl rfl ?_
    refine x_iload_n (pc := 21) C dX7_feed_21 rfl rfl ?_
    obtain ⟨k, h⟩ := chk_s h
    have k2 := k
    obtain ⟨u0, σ2, k, h⟩ := bnd_s h
    refine x_callV0 (pc := 22) C (mX7_feedNumber E l k) cl5 k2 cX7_65 nX7_feedNumber sX7_feedNumber rfl rfl (Nat.le_of_ble_eq_true rfl) ⟨Nat.le_of_ble_eq_true rfl, Nat.le_of_ble_eq_true rfl, Nat.le_of_ble_eq_true rfl, Nat.le_of_ble_eq_true rfl⟩ dX7_feed_22 ?_
    refine x_aload_n (pc := 25) C dX7_feed_25 rfl rfl ?_
    refine x_iload_n (pc := 26) C dX7_feed_26 rfl rfl ?_
    obtain ⟨k, h⟩ := chk_s h
    have k2 := k
    obtain ⟨u0, σ3, k, h⟩ := bnd_s h
    refine x_callV0 (pc := 27) C (mX7_feedNumber E l k) cl5 k2 cX7_65 nX7_feedNumber sX7_feedNumber rfl rfl (Nat.le_of_ble_eq_true rfl) ⟨Nat.le_of_ble_eq_true rfl, Nat.le_of_ble_eq_true rfl, Nat.le_of_ble_eq_true rfl, Nat.le_of_ble_eq_true rfl⟩ dX7_feed_27 ?_
    refine x_aload_n (pc := 30) C dX7_feed_30 rfl rfl ?_
    refine x_iload (pc := 31) C dX7_feed_31 rfl ?_
    obtain ⟨k, h⟩ := chk_s h
    have k2 := k
    obtain ⟨u0, σ4, k, h⟩ := bnd_s h
    refine x_callV0 (pc := 33) C (mX7_feedNumber E l k) cl5 k2 cX7_65 nX7_feedNumber sX7_feedNumber rfl rfl (Nat.le_of_ble_eq_true rfl) ⟨Nat.le_of_ble_eq_true rfl, Nat.le_of_ble_eq_true rfl, Nat.le_of_ble_eq_true rfl, Nat.le_of_ble_eq_true rfl⟩ dX7_feed_33 ?_
    refine x_aload_n (pc := 36) C dX7_feed_36 rfl rfl ?_
    refine x_iload (pc := 37) C dX7_feed_37 rfl ?_
    obtain ⟨k, h⟩ := chk_s h
    have k2 := k
    obtain ⟨u0, σ5, k, h⟩ := bnd_s h
    refine x_callV0 (pc := 39) C (mX7_feedNumber E l k) cl5 k2 cX7_65 nX7_feedNumber sX7_feedNumber rfl rfl (Nat.le_of_ble_eq_true rfl) ⟨Nat.le_of_ble_eq_true rfl, Nat.le_of_ble_eq_true rfl, Nat.le_of_ble_eq_true rfl, Nat.le_of_ble_eq_true rfl⟩ dX7_feed_39 ?_
    refine x_aload_n (pc := 42) C dX7_feed_42 rfl rfl ?_
    obtain ⟨k, h⟩ := chk_s h
    refine x_getI (pc := 43) C fX7_13 rfl k dX7_feed_43 ?_
    cases h
    exact x_iret C hr dX7_feed_46
  · rw [if_neg q] at h
    refine x_iconst (v := -1) (pc := 13) C dX7_feed_13 (by decide) ?_
    cases h
    exact x_iret C hr dX7_feed_14
def DX7_text_12 (σ : Sg) : Option (Int32 × Sg) :=
  some ((-2 : Int32), σ)
theorem tX7_text_12 {r : Int32} {σ' : Sg} (C : Cx E p s m args meth c RX7 cX7_text 3) (hr : meth.sig.returnType = (some .int)) {σ : Sg} (h : DX7_text_12  σ = some (r, σ')) : Y E p l e (rmA 7 0 0) s m args below meth c (some (.int r)) σ' 0 0 3 0 0 σ 12 [none, none, none] [] := by
  unfold DX7_text_12 at h
  refine x_bipush (v := -2) (pc := 12) C dX7_text_12 (by decide) ?_
  cases h
  exact x_iret C hr dX7_text_14
def DX7_text_59 (σ : Sg) : Option (Int32 × Sg) :=
  some ((-1 : Int32), σ)
theorem tX7_text_59 {r : Int32} {σ' : Sg} (C : Cx E p s m args meth c RX7 cX7_text 3) (hr : meth.sig.returnType = (some .int)) {σ : Sg} (h : DX7_text_59  σ = some (r, σ')) : Y E p l e (rmA 7 0 0) s m args below meth c (some (.int r)) σ' 0 0 3 0 0 σ 59 [none, none, none] [] := by
  unfold DX7_text_59 at h
  refine x_iconst (v := -1) (pc := 59) C dX7_text_59 (by decide) ?_
  cases h
  exact x_iret C hr dX7_text_60
def DX7_text_67 (l0 : Nat) (σ : Sg) : Option (Int32 × Sg) :=
  chk (ckO σ 5 l0) <|
  chk (ckV (gR σ l0 2)) <|
  chk (ckO σ 5 l0) <|
  chk (ckV (gR σ l0 3)) <|
  chk (ckO σ 5 l0) <|
  chk (ckV (gR σ l0 3)) <|
  wlet (pR σ l0 2 (gR σ l0 3)) fun σ1 =>
  chk (ckO σ1 5 l0) <|
  chk (ckV (gR σ l0 2)) <|
  wlet (pR σ1 l0 3 (gR σ l0 2)) fun σ2 =>
  chk (ckO σ2 5 l0) <|
  chk (ckV (gR σ2 l0 5)) <|
  chk (ckO σ2 5 l0) <|
  chk (ckV (gR σ2 l0 2)) <|
  chk (ckO σ2 1 (gR σ2 l0 5)) <|
  bnd (DX2_open (gR σ2 l0 5) (gR σ2 l0 2) σ2) fun _ σ3 =>
  chk (ckO σ3 5 l0) <|
  chk (ckV (gR σ3 l0 2)) <|
  chk (ckO σ3 0 (gR σ3 l0 2)) <|
  some ((gI σ3 (gR σ3 l0 2) 0), σ3)
theorem tX7_text_67 {r : Int32} {σ' : Sg} (C : Cx E p s m args meth c RX7 cX7_text 3) (hr : meth.sig.returnType = (some .int)) {l0 : Nat} {σ : Sg} (h : DX7_text_67 l0 σ = some (r, σ')) : Y E p l e (rmA 7 0 0) s m args below meth c (some (.int r)) σ' 0 0 3 0 0 σ 67 [some (.ref (ad E l0)), none, none] [] := by
  unfold DX7_text_67 at h
  refine x_aload_n (pc := 67) C dX7_text_67 rfl rfl ?_
  obtain ⟨k, h⟩ := chk_s h
  have k2 := k
  obtain ⟨k, h⟩ := chk_s h
  refine x_getR (pc := 68) C fX7_20 rfl k2 k dX7_text_68 ?_
  refine x_astore_n (M := [some _, none, some _]) (pc := 71) C dX7_text_71 rfl (by decide) rfl ?_
  refine x_aload_n (pc := 72) C dX7_text_72 rfl rfl ?_
  refine x_aload_n (pc := 73) C dX7_text_73 rfl rfl ?_
  obtain ⟨k, h⟩ := chk_s h
  have k2 := k
  obtain ⟨k, h⟩ := chk_s h
  refine x_getR (pc := 74) C fX7_24 rfl k2 k dX7_text_74 ?_
  obtain ⟨k, h⟩ := chk_s h
  have k2 := k
  obtain ⟨k, h⟩ := chk_s h
  obtain ⟨σ1, e1, h⟩ := wlet_s h
  refine x_putR (pc := 77) C pX7_20 (Or.inl ⟨_, rfl⟩) k2 k dX7_text_77 (x_eq e1 ?_)
  refine x_aload_n (pc := 80) C dX7_text_80 rfl rfl ?_
  refine x_aload_n (pc := 81) C dX7_text_81 rfl rfl ?_
  obtain ⟨k, h⟩ := chk_s h
  have k2 := k
  obtain ⟨k, h⟩ := chk_s h
  obtain ⟨σ2, e1, h⟩ := wlet_s h
  refine x_putR (pc := 82) C pX7_24 (Or.inl ⟨_, rfl⟩) k2 k dX7_text_82 (x_eq e1 ?_)
  refine x_aload_n (pc := 85) C dX7_text_85 rfl rfl ?_
  obtain ⟨k, h⟩ := chk_s h
  have k2 := k
  obtain ⟨k, h⟩ := chk_s h
  refine x_getR (pc := 86) C fX7_39 rfl k2 k dX7_text_86 ?_
  refine x_aload_n (pc := 89) C dX7_text_89 rfl rfl ?_
  obtain ⟨k, h⟩ := chk_s h
  have k2 := k
  obtain ⟨k, h⟩ := chk_s h
  refine x_getR (pc := 90) C fX7_20 rfl k2 k dX7_text_90 ?_
  obtain ⟨k, h⟩ := chk_s h
  have k2 := k
  obtain ⟨u0, σ3, k, h⟩ := bnd_s h
  refine x_callV0 (pc := 93) C (mX2_open E l k) cl1 k2 cX7_80 nX2_open sX2_open rfl rfl (Nat.le_of_ble_eq_true rfl) ⟨Nat.le_of_ble_eq_true rfl, Nat.le_of_ble_eq_true rfl, Nat.le_of_ble_eq_true rfl, Nat.le_of_ble_eq_true rfl⟩ dX7_text_93 ?_
  refine x_aload_n (pc := 96) C dX7_text_96 rfl rfl ?_
  obtain ⟨k, h⟩ := chk_s h
  have k2 := k
  obtain ⟨k, h⟩ := chk_s h
  refine x_getR (pc := 97) C fX7_20 rfl k2 k dX7_text_97 ?_
  obtain ⟨k, h⟩ := chk_s h
  refine x_getI (pc := 100) C fX7_82 rfl k dX7_text_100 ?_
  cases h
  exact x_iret C hr dX7_text_103
def DX7_text_34 : Nat → Nat → Int32 → Int32 → Sg → Option (Int32 × Sg)
  | 0, _, _, _, _ => none
  | n + 1, l0, l1, l2, σ =>
    if l1 ≤ l2 then
      DX7_text_67 l0 σ
    else
      chk (ckO σ 5 l0) <|
      chk (ckV (gR σ l0 4)) <|
      chk (ckO σ 2 (gR σ l0 4)) <|
      bnd (DX3_hasLine (gR σ l0 4) σ) fun v1 σ2 =>
      if v1 = 0 then
        DX7_text_67 l0 σ2
      else
        chk (ckO σ2 5 l0) <|
        chk (ckV (gR σ2 l0 4)) <|
        chk (ckO σ2 2 (gR σ2 l0 4)) <|
        bnd (DX3_readLine (gR σ2 l0 4) σ2) fun v3 σ4 =>
        if v3 = 0 then
          DX7_text_59 σ4
        else
          DX7_text_34 n l0 l1 (l2 + (1 : Int32)) σ4
theorem tX7_text_34 {r : Int32} {σ' : Sg} (C : Cx E p s m args meth c RX7 cX7_text 3) (hr : meth.sig.returnType = (some .int)) : ∀ (n : Nat) (l0 : Nat) (l1 : Int32) (l2 : Int32) (σ : Sg) (h : DX7_text_34 n l0 l1 l2 σ = some (r, σ')), Y E p l e (rmA 7 0 0) s m args below meth c (some (.int r)) σ' 0 0 3 0 0 σ 34 [some (.ref (ad E l0)), some (.int l1), some (.int l2)] [] := by
  intro n
  induction n with
  | zero => intro l0 l1 l2 σ h; cases h
  | succ n ih =>
    intro l0 l1 l2 σ h
    unfold DX7_text_34 at h
    refine x_iload_n (pc := 34) C dX7_text_34 rfl rfl ?_
    refine x_iload_n (pc := 35) C dX7_text_35 rfl rfl ?_
    refine x_icmp_ge (pc := 36) (tgt := 67) C dX7_text_36 (by decide) (fun q => ?_) (fun q => ?_)
    · rw [if_pos q] at h
      exact x_sub (tX7_text_67 C hr h) (xLe_s (xLe_n (xLe_n xLe_0)))
    · rw [if_neg q] at h
      refine x_aload_n (pc := 39) C dX7_text_39 rfl rfl ?_
      obtain ⟨k, h⟩ := chk_s h
      have k2 := k
      obtain ⟨k, h⟩ := chk_s h
      refine x_getR (pc := 40) C fX7_32 rfl k2 k dX7_text_40 ?_
      obtain ⟨k, h⟩ := chk_s h
      have k2 := k
      obtain ⟨v1, σ2, k, h⟩ := bnd_s h
      refine x_callV1 (pc := 43) C (mX3_hasLine E l k) cl2 k2 cX7_73 nX3_hasLine sX3_hasLine rfl rfl (Nat.le_of_ble_eq_true rfl) ⟨Nat.le_of_ble_eq_true rfl, Nat.le_of_ble_eq_true rfl, Nat.le_of_ble_eq_true rfl, Nat.le_of_ble_eq_true rfl⟩ dX7_text_43 ?_
      refine x_if_eq (pc := 46) (tgt := 67) C dX7_text_46 (by decide) (fun q => ?_) (fun q => ?_)
      · rw [if_pos q] at h
        exact x_sub (tX7_text_67 C hr h) (xLe_s (xLe_n (xLe_n xLe_0)))
      · rw [if_neg q] at h
        refine x_aload_n (pc := 49) C dX7_text_49 rfl rfl ?_
        obtain ⟨k, h⟩ := chk_s h
        have k2 := k
        obtain ⟨k, h⟩ := chk_s h
        refine x_getR (pc := 50) C fX7_32 rfl k2 k dX7_text_50 ?_
        obtain ⟨k, h⟩ := chk_s h
        have k2 := k
        obtain ⟨v3, σ4, k, h⟩ := bnd_s h
        refine x_callV1 (pc := 53) C (mX3_readLine E l k) cl2 k2 cX7_77 nX3_readLine sX3_readLine rfl rfl (Nat.le_of_ble_eq_true rfl) ⟨Nat.le_of_ble_eq_true rfl, Nat.le_of_ble_eq_true rfl, Nat.le_of_ble_eq_true rfl, Nat.le_of_ble_eq_true rfl⟩ dX7_text_53 ?_
        refine x_if_ne (pc := 56) (tgt := 61) C dX7_text_56 (by decide) (fun q => ?_) (fun q => ?_)
        · rw [if_pos q] at h
          exact x_sub (tX7_text_59 C hr h) (xLe_n (xLe_n (xLe_n xLe_0)))
        · rw [if_neg q] at h
          refine x_iinc (v := 1) (M := [some _, some _, some _]) (pc := 61) C dX7_text_61 rfl (by decide) (by decide) rfl ?_
          refine x_goto (tgt := 34) (pc := 64) C dX7_text_64 (by decide) ?_
          exact x_sub (ih _ _ _ _ h) (xLe_s (xLe_s (xLe_s xLe_0)))
def DX7_text (l0 : Nat) (l1 : Int32) (σ : Sg) : Option (Int32 × Sg) :=
  if l1 < 0 then
    DX7_text_12 σ
  else
    chk (ckO σ 5 l0) <|
    if l1 ≤ (gI σ l0 1) then
      chk (ckO σ 5 l0) <|
      wlet (pI σ l0 1 (0 : Int32)) fun σ1 =>
      chk (ckO σ1 5 l0) <|
      chk (ckV (gR σ1 l0 4)) <|
      chk (ckO σ1 5 l0) <|
      chk (ckV (gR σ1 l0 3)) <|
      chk (ckO σ1 2 (gR σ1 l0 4)) <|
      bnd (DX3_open (gR σ1 l0 4) (gR σ1 l0 3) l1 σ1) fun _ σ2 =>
      DX7_text_34 FU l0 l1 (0 : Int32) σ2
    else
      DX7_text_12 σ
theorem mX7_text (E : Ev) (l : Launch) {l0 : Nat} {l1 : Int32} {σ : Sg} {r : Int32} {σ' : Sg} (h : DX7_text l0 l1 σ = some (r, σ')) : Mt E l yX7_text cX7_text 3 (some .int) 7 0 0 [.ref (ad E l0), .int l1] σ (some (.int r)) σ' := by
  refine Mt.ofX (by decide) (Nat.le_of_ble_eq_true rfl) (L0 := [some (.ref (ad E l0)), some (.int l1), none]) (xEntN_ok [.ref (ad E l0), .int l1] 3) (fun p e s m args below meth c C hr hn => ?_)
  unfold DX7_text at h
  refine x_iload_n (pc := 0) C dX7_text_0 rfl rfl ?_
  refine x_if_lt (pc := 1) (tgt := 12) C dX7_text_1 (by decide) (fun q => ?_) (fun q => ?_)
  · rw [if_pos q] at h
    exact x_sub (tX7_text_12 C hr h) (xLe_n (xLe_n (xLe_n xLe_0)))
  · rw [if_neg q] at h
    refine x_iload_n (pc := 4) C dX7_text_4 rfl rfl ?_
    refine x_aload_n (pc := 5) C dX7_text_5 rfl rfl ?_
    obtain ⟨k, h⟩ := chk_s h
    refine x_getI (pc := 6) C fX7_13 rfl k dX7_text_6 ?_
    refine x_icmp_le (pc := 9) (tgt := 15) C dX7_text_9 (by decide) (fun q => ?_) (fun q => ?_)
    · rw [if_pos q] at h
      refine x_aload_n (pc := 15) C dX7_text_15 rfl rfl ?_
      refine x_iconst (v := 0) (pc := 16) C dX7_text_16 (by decide) ?_
      obtain ⟨k, h⟩ := chk_s h
      obtain ⟨σ1, e1, h⟩ := wlet_s h
      refine x_putI (pc := 17) C pX7_13 rfl k dX7_text_17 (x_eq e1 ?_)
      refine x_aload_n (pc := 20) C dX7_text_20 rfl rfl ?_
      obtain ⟨k, h⟩ := chk_s h
      have k2 := k
      obtain ⟨k, h⟩ := chk_s h
      refine x_getR (pc := 21) C fX7_32 rfl k2 k dX7_text_21 ?_
      refine x_aload_n (pc := 24) C dX7_text_24 rfl rfl ?_
      obtain ⟨k, h⟩ := chk_s h
      have k2 := k
      obtain ⟨k, h⟩ := chk_s h
      refine x_getR (pc := 25) C fX7_24 rfl k2 k dX7_text_25 ?_
      refine x_iload_n (pc := 28) C dX7_text_28 rfl rfl ?_
      obtain ⟨k, h⟩ := chk_s h
      have k2 := k
      obtain ⟨u0, σ2, k, h⟩ := bnd_s h
      refine x_callV0 (pc := 29) C (mX3_open E l k) cl2 k2 cX7_69 nX3_open sX3_open rfl rfl (Nat.le_of_ble_eq_true rfl) ⟨Nat.le_of_ble_eq_true rfl, Nat.le_of_ble_eq_true rfl, Nat.le_of_ble_eq_true rfl, Nat.le_of_ble_eq_true rfl⟩ dX7_text_29 ?_
      refine x_iconst (v := 0) (pc := 32) C dX7_text_32 (by decide) ?_
      refine x_istore_n (M := [some _, some _, some _]) (pc := 33) C dX7_text_33 rfl (by decide) rfl ?_
      exact x_sub (tX7_text_34 C hr FU _ _ _ _ h) (xLe_s (xLe_s (xLe_s xLe_0)))
    · rw [if_neg q] at h
      exact x_sub (tX7_text_12 C hr h) (xLe_n (xLe_n (xLe_n xLe_0)))
def DX7_isCarrier_20 (s0 : Int32) (σ : Sg) : Option (Int32 × Sg) :=
  chk (ck01 s0) <|
  some (s0, σ)
theorem tX7_isCarrier_20 {r : Int32} {σ' : Sg} (C : Cx E p s m args meth c RX7 cX7_isCarrier 2) (hr : meth.sig.returnType = (some .boolean)) {s0 : Int32} {σ : Sg} (h : DX7_isCarrier_20 s0 σ = some (r, σ')) : Y E p l e (rmA 1 0 0) s m args below meth c (some (.int r)) σ' 0 0 2 0 0 σ 20 [none, none] [.int s0] := by
  unfold DX7_isCarrier_20 at h
  obtain ⟨kz, h⟩ := chk_s h
  cases h
  exact x_zret C hr (nar_01 kz) dX7_isCarrier_20
def DX7_isCarrier_19 (σ : Sg) : Option (Int32 × Sg) :=
  DX7_isCarrier_20 (0 : Int32) σ
theorem tX7_isCarrier_19 {r : Int32} {σ' : Sg} (C : Cx E p s m args meth c RX7 cX7_isCarrier 2) (hr : meth.sig.returnType = (some .boolean)) {σ : Sg} (h : DX7_isCarrier_19  σ = some (r, σ')) : Y E p l e (rmA 1 0 0) s m args below meth c (some (.int r)) σ' 0 0 2 0 0 σ 19 [none, none] [] := by
  unfold DX7_isCarrier_19 at h
  refine x_iconst (v := 0) (pc := 19) C dX7_isCarrier_19 (by decide) ?_
  exact x_sub (tX7_isCarrier_20 C hr h) (xLe_n (xLe_n xLe_0))
def DX7_isCarrier (l0 : Nat) (l1 : Int32) (σ : Sg) : Option (Int32 × Sg) :=
  if l1 < 0 then
    DX7_isCarrier_19 σ
  else
    chk (ckO σ 5 l0) <|
    chk (ckV (gR σ l0 2)) <|
    chk (ckO σ 0 (gR σ l0 2)) <|
    if (gI σ (gR σ l0 2) 2) ≤ l1 then
      DX7_isCarrier_19 σ
    else
      DX7_isCarrier_20 (1 : Int32) σ
theorem mX7_isCarrier (E : Ev) (l : Launch) {l0 : Nat} {l1 : Int32} {σ : Sg} {r : Int32} {σ' : Sg} (h : DX7_isCarrier l0 l1 σ = some (r, σ')) : Mt E l yX7_isCarrier cX7_isCarrier 2 (some .boolean) 1 0 0 [.ref (ad E l0), .int l1] σ (some (.int r)) σ' := by
  refine Mt.ofX (by decide) (Nat.le_of_ble_eq_true rfl) (L0 := [some (.ref (ad E l0)), some (.int l1)]) (xEntN_ok [.ref (ad E l0), .int l1] 2) (fun p e s m args below meth c C hr hn => ?_)
  unfold DX7_isCarrier at h
  refine x_iload_n (pc := 0) C dX7_isCarrier_0 rfl rfl ?_
  refine x_if_lt (pc := 1) (tgt := 19) C dX7_isCarrier_1 (by decide) (fun q => ?_) (fun q => ?_)
  · rw [if_pos q] at h
    exact x_sub (tX7_isCarrier_19 C hr h) (xLe_n (xLe_n xLe_0))
  · rw [if_neg q] at h
    refine x_iload_n (pc := 4) C dX7_isCarrier_4 rfl rfl ?_
    refine x_aload_n (pc := 5) C dX7_isCarrier_5 rfl rfl ?_
    obtain ⟨k, h⟩ := chk_s h
    have k2 := k
    obtain ⟨k, h⟩ := chk_s h
    refine x_getR (pc := 6) C fX7_20 rfl k2 k dX7_isCarrier_6 ?_
    obtain ⟨k, h⟩ := chk_s h
    refine x_getI (pc := 9) C fX7_94 rfl k dX7_isCarrier_9 ?_
    refine x_icmp_ge (pc := 12) (tgt := 19) C dX7_isCarrier_12 (by decide) (fun q => ?_) (fun q => ?_)
    · rw [if_pos q] at h
      exact x_sub (tX7_isCarrier_19 C hr h) (xLe_n (xLe_n xLe_0))
    · rw [if_neg q] at h
      refine x_iconst (v := 1) (pc := 15) C dX7_isCarrier_15 (by decide) ?_
      refine x_goto (tgt := 20) (pc := 16) C dX7_isCarrier_16 (by decide) ?_
      exact x_sub (tX7_isCarrier_20 C hr h) (xLe_n (xLe_n xLe_0))
def DX7_isProviso_20 (s0 : Int32) (σ : Sg) : Option (Int32 × Sg) :=
  chk (ck01 s0) <|
  some (s0, σ)
theorem tX7_isProviso_20 {r : Int32} {σ' : Sg} (C : Cx E p s m args meth c RX7 cX7_isProviso 2) (hr : meth.sig.returnType = (some .boolean)) {s0 : Int32} {σ : Sg} (h : DX7_isProviso_20 s0 σ = some (r, σ')) : Y E p l e (rmA 1 0 0) s m args below meth c (some (.int r)) σ' 0 0 2 0 0 σ 20 [none, none] [.int s0] := by
  unfold DX7_isProviso_20 at h
  obtain ⟨kz, h⟩ := chk_s h
  cases h
  exact x_zret C hr (nar_01 kz) dX7_isProviso_20
def DX7_isProviso_19 (σ : Sg) : Option (Int32 × Sg) :=
  DX7_isProviso_20 (0 : Int32) σ
theorem tX7_isProviso_19 {r : Int32} {σ' : Sg} (C : Cx E p s m args meth c RX7 cX7_isProviso 2) (hr : meth.sig.returnType = (some .boolean)) {σ : Sg} (h : DX7_isProviso_19  σ = some (r, σ')) : Y E p l e (rmA 1 0 0) s m args below meth c (some (.int r)) σ' 0 0 2 0 0 σ 19 [none, none] [] := by
  unfold DX7_isProviso_19 at h
  refine x_iconst (v := 0) (pc := 19) C dX7_isProviso_19 (by decide) ?_
  exact x_sub (tX7_isProviso_20 C hr h) (xLe_n (xLe_n xLe_0))
def DX7_isProviso (l0 : Nat) (l1 : Int32) (σ : Sg) : Option (Int32 × Sg) :=
  if l1 < 0 then
    DX7_isProviso_19 σ
  else
    chk (ckO σ 5 l0) <|
    chk (ckV (gR σ l0 2)) <|
    chk (ckO σ 0 (gR σ l0 2)) <|
    if (gI σ (gR σ l0 2) 5) ≤ l1 then
      DX7_isProviso_19 σ
    else
      DX7_isProviso_20 (1 : Int32) σ
theorem mX7_isProviso (E : Ev) (l : Launch) {l0 : Nat} {l1 : Int32} {σ : Sg} {r : Int32} {σ' : Sg} (h : DX7_isProviso l0 l1 σ = some (r, σ')) : Mt E l yX7_isProviso cX7_isProviso 2 (some .boolean) 1 0 0 [.ref (ad E l0), .int l1] σ (some (.int r)) σ' := by
  refine Mt.ofX (by decide) (Nat.le_of_ble_eq_true rfl) (L0 := [some (.ref (ad E l0)), some (.int l1)]) (xEntN_ok [.ref (ad E l0), .int l1] 2) (fun p e s m args below meth c C hr hn => ?_)
  unfold DX7_isProviso at h
  refine x_iload_n (pc := 0) C dX7_isProviso_0 rfl rfl ?_
  refine x_if_lt (pc := 1) (tgt := 19) C dX7_isProviso_1 (by decide) (fun q => ?_) (fun q => ?_)
  · rw [if_pos q] at h
    exact x_sub (tX7_isProviso_19 C hr h) (xLe_n (xLe_n xLe_0))
  · rw [if_neg q] at h
    refine x_iload_n (pc := 4) C dX7_isProviso_4 rfl rfl ?_
    refine x_aload_n (pc := 5) C dX7_isProviso_5 rfl rfl ?_
    obtain ⟨k, h⟩ := chk_s h
    have k2 := k
    obtain ⟨k, h⟩ := chk_s h
    refine x_getR (pc := 6) C fX7_20 rfl k2 k dX7_isProviso_6 ?_
    obtain ⟨k, h⟩ := chk_s h
    refine x_getI (pc := 9) C fX7_97 rfl k dX7_isProviso_9 ?_
    refine x_icmp_ge (pc := 12) (tgt := 19) C dX7_isProviso_12 (by decide) (fun q => ?_) (fun q => ?_)
    · rw [if_pos q] at h
      exact x_sub (tX7_isProviso_19 C hr h) (xLe_n (xLe_n xLe_0))
    · rw [if_neg q] at h
      refine x_iconst (v := 1) (pc := 15) C dX7_isProviso_15 (by decide) ?_
      refine x_goto (tgt := 20) (pc := 16) C dX7_isProviso_16 (by decide) ?_
      exact x_sub (tX7_isProviso_20 C hr h) (xLe_n (xLe_n xLe_0))
def DX7_isTicket_20 (s0 : Int32) (σ : Sg) : Option (Int32 × Sg) :=
  chk (ck01 s0) <|
  some (s0, σ)
theorem tX7_isTicket_20 {r : Int32} {σ' : Sg} (C : Cx E p s m args meth c RX7 cX7_isTicket 2) (hr : meth.sig.returnType = (some .boolean)) {s0 : Int32} {σ : Sg} (h : DX7_isTicket_20 s0 σ = some (r, σ')) : Y E p l e (rmA 1 0 0) s m args below meth c (some (.int r)) σ' 0 0 2 0 0 σ 20 [none, none] [.int s0] := by
  unfold DX7_isTicket_20 at h
  obtain ⟨kz, h⟩ := chk_s h
  cases h
  exact x_zret C hr (nar_01 kz) dX7_isTicket_20
def DX7_isTicket_19 (σ : Sg) : Option (Int32 × Sg) :=
  DX7_isTicket_20 (0 : Int32) σ
theorem tX7_isTicket_19 {r : Int32} {σ' : Sg} (C : Cx E p s m args meth c RX7 cX7_isTicket 2) (hr : meth.sig.returnType = (some .boolean)) {σ : Sg} (h : DX7_isTicket_19  σ = some (r, σ')) : Y E p l e (rmA 1 0 0) s m args below meth c (some (.int r)) σ' 0 0 2 0 0 σ 19 [none, none] [] := by
  unfold DX7_isTicket_19 at h
  refine x_iconst (v := 0) (pc := 19) C dX7_isTicket_19 (by decide) ?_
  exact x_sub (tX7_isTicket_20 C hr h) (xLe_n (xLe_n xLe_0))
def DX7_isTicket (l0 : Nat) (l1 : Int32) (σ : Sg) : Option (Int32 × Sg) :=
  if l1 < 0 then
    DX7_isTicket_19 σ
  else
    chk (ckO σ 5 l0) <|
    chk (ckV (gR σ l0 2)) <|
    chk (ckO σ 0 (gR σ l0 2)) <|
    if (gI σ (gR σ l0 2) 9) ≤ l1 then
      DX7_isTicket_19 σ
    else
      DX7_isTicket_20 (1 : Int32) σ
theorem mX7_isTicket (E : Ev) (l : Launch) {l0 : Nat} {l1 : Int32} {σ : Sg} {r : Int32} {σ' : Sg} (h : DX7_isTicket l0 l1 σ = some (r, σ')) : Mt E l yX7_isTicket cX7_isTicket 2 (some .boolean) 1 0 0 [.ref (ad E l0), .int l1] σ (some (.int r)) σ' := by
  refine Mt.ofX (by decide) (Nat.le_of_ble_eq_true rfl) (L0 := [some (.ref (ad E l0)), some (.int l1)]) (xEntN_ok [.ref (ad E l0), .int l1] 2) (fun p e s m args below meth c C hr hn => ?_)
  unfold DX7_isTicket at h
  refine x_iload_n (pc := 0) C dX7_isTicket_0 rfl rfl ?_
  refine x_if_lt (pc := 1) (tgt := 19) C dX7_isTicket_1 (by decide) (fun q => ?_) (fun q => ?_)
  · rw [if_pos q] at h
    exact x_sub (tX7_isTicket_19 C hr h) (xLe_n (xLe_n xLe_0))
  · rw [if_neg q] at h
    refine x_iload_n (pc := 4) C dX7_isTicket_4 rfl rfl ?_
    refine x_aload_n (pc := 5) C dX7_isTicket_5 rfl rfl ?_
    obtain ⟨k, h⟩ := chk_s h
    have k2 := k
    obtain ⟨k, h⟩ := chk_s h
    refine x_getR (pc := 6) C fX7_20 rfl k2 k dX7_isTicket_6 ?_
    obtain ⟨k, h⟩ := chk_s h
    refine x_getI (pc := 9) C fX7_100 rfl k dX7_isTicket_9 ?_
    refine x_icmp_ge (pc := 12) (tgt := 19) C dX7_isTicket_12 (by decide) (fun q => ?_) (fun q => ?_)
    · rw [if_pos q] at h
      exact x_sub (tX7_isTicket_19 C hr h) (xLe_n (xLe_n xLe_0))
    · rw [if_neg q] at h
      refine x_iconst (v := 1) (pc := 15) C dX7_isTicket_15 (by decide) ?_
      refine x_goto (tgt := 20) (pc := 16) C dX7_isTicket_16 (by decide) ?_
      exact x_sub (tX7_isTicket_20 C hr h) (xLe_n (xLe_n xLe_0))
def DX7_isCoupon_29 (s0 : Int32) (σ : Sg) : Option (Int32 × Sg) :=
  chk (ck01 s0) <|
  some (s0, σ)
theorem tX7_isCoupon_29 {r : Int32} {σ' : Sg} (C : Cx E p s m args meth c RX7 cX7_isCoupon 3) (hr : meth.sig.returnType = (some .boolean)) {s0 : Int32} {σ : Sg} (h : DX7_isCoupon_29 s0 σ = some (r, σ')) : Y E p l e (rmA 2 0 0) s m args below meth c (some (.int r)) σ' 0 0 3 0 0 σ 29 [none, none, none] [.int s0] := by
  unfold DX7_isCoupon_29 at h
  obtain ⟨kz, h⟩ := chk_s h
  cases h
  exact x_zret C hr (nar_01 kz) dX7_isCoupon_29
def DX7_isCoupon_28 (σ : Sg) : Option (Int32 × Sg) :=
  DX7_isCoupon_29 (0 : Int32) σ
theorem tX7_isCoupon_28 {r : Int32} {σ' : Sg} (C : Cx E p s m args meth c RX7 cX7_isCoupon 3) (hr : meth.sig.returnType = (some .boolean)) {σ : Sg} (h : DX7_isCoupon_28  σ = some (r, σ')) : Y E p l e (rmA 2 0 0) s m args below meth c (some (.int r)) σ' 0 0 3 0 0 σ 28 [none, none, none] [] := by
  unfold DX7_isCoupon_28 at h
  refine x_iconst (v := 0) (pc := 28) C dX7_isCoupon_28 (by decide) ?_
  exact x_sub (tX7_isCoupon_29 C hr h) (xLe_n (xLe_n (xLe_n xLe_0)))
def DX7_isCoupon (l0 : Nat) (l1 : Int32) (l2 : Int32) (σ : Sg) : Option (Int32 × Sg) :=
  chk (ckO σ 5 l0) <|
  bnd (DX7_isTicket l0 l1 σ) fun v1 σ2 =>
  if v1 = 0 then
    DX7_isCoupon_28 σ2
  else
    if l2 < 0 then
      DX7_isCoupon_28 σ2
    else
      chk (ckO σ2 5 l0) <|
      chk (ckV (gR σ2 l0 2)) <|
      chk (ckO σ2 0 (gR σ2 l0 2)) <|
      bnd (DX1_couponsOf (gR σ2 l0 2) l1 σ2) fun v3 σ4 =>
      if v3 ≤ l2 then
        DX7_isCoupon_28 σ4
      else
        DX7_isCoupon_29 (1 : Int32) σ4
theorem mX7_isCoupon (E : Ev) (l : Launch) {l0 : Nat} {l1 : Int32} {l2 : Int32} {σ : Sg} {r : Int32} {σ' : Sg} (h : DX7_isCoupon l0 l1 l2 σ = some (r, σ')) : Mt E l yX7_isCoupon cX7_isCoupon 3 (some .boolean) 2 0 0 [.ref (ad E l0), .int l1, .int l2] σ (some (.int r)) σ' := by
  refine Mt.ofX (by decide) (Nat.le_of_ble_eq_true rfl) (L0 := [some (.ref (ad E l0)), some (.int l1), some (.int l2)]) (xEntN_ok [.ref (ad E l0), .int l1, .int l2] 3) (fun p e s m args below meth c C hr hn => ?_)
  unfold DX7_isCoupon at h
  refine x_aload_n (pc := 0) C dX7_isCoupon_0 rfl rfl ?_
  refine x_iload_n (pc := 1) C dX7_isCoupon_1 rfl rfl ?_
  obtain ⟨k, h⟩ := chk_s h
  have k2 := k
  obtain ⟨v1, σ2, k, h⟩ := bnd_s h
  refine x_callV1 (pc := 2) C (mX7_isTicket E l k) cl5 k2 cX7_103 nX7_isTicket sX7_isTicket rfl rfl (Nat.le_of_ble_eq_true rfl) ⟨Nat.le_of_ble_eq_true rfl, Nat.le_of_ble_eq_true rfl, Nat.le_of_ble_eq_true rfl, Nat.le_of_ble_eq_true rfl⟩ dX7_isCoupon_2 ?_
  refine x_if_eq (pc := 5) (tgt := 28) C dX7_isCoupon_5 (by decide) (fun q => ?_) (fun q => ?_)
  · rw [if_pos q] at h
    exact x_sub (tX7_isCoupon_28 C hr h) (xLe_n (xLe_n (xLe_n xLe_0)))
  · rw [if_neg q] at h
    refine x_iload_n (pc := 8) C dX7_isCoupon_8 rfl rfl ?_
    refine x_if_lt (pc := 9) (tgt := 28) C dX7_isCoupon_9 (by decide) (fun q => ?_) (fun q => ?_)
    · rw [if_pos q] at h
      exact x_sub (tX7_isCoupon_28 C hr h) (xLe_n (xLe_n (xLe_n xLe_0)))
    · rw [if_neg q] at h
      refine x_iload_n (pc := 12) C dX7_isCoupon_12 rfl rfl ?_
      refine x_aload_n (pc := 13) C dX7_isCoupon_13 rfl rfl ?_
      obtain ⟨k, h⟩ := chk_s h
      have k2 := k
      obtain ⟨k, h⟩ := chk_s h
      refine x_getR (pc := 14) C fX7_20 rfl k2 k dX7_isCoupon_14 ?_
      refine x_iload_n (pc := 17) C dX7_isCoupon_17 rfl rfl ?_
      obtain ⟨k, h⟩ := chk_s h
      have k2 := k
      obtain ⟨v3, σ4, k, h⟩ := bnd_s h
      refine x_callV1 (pc := 18) C (mX1_couponsOf E l k) cl0 k2 cX7_107 nX1_couponsOf sX1_couponsOf rfl rfl (Nat.le_of_ble_eq_true rfl) ⟨Nat.le_of_ble_eq_true rfl, Nat.le_of_ble_eq_true rfl, Nat.le_of_ble_eq_true rfl, Nat.le_of_ble_eq_true rfl⟩ dX7_isCoupon_18 ?_
      refine x_icmp_ge (pc := 21) (tgt := 28) C dX7_isCoupon_21 (by decide) (fun q => ?_) (fun q => ?_)
      · rw [if_pos q] at h
        exact x_sub (tX7_isCoupon_28 C hr h) (xLe_n (xLe_n (xLe_n xLe_0)))
      · rw [if_neg q] at h
        refine x_iconst (v := 1) (pc := 24) C dX7_isCoupon_24 (by decide) ?_
        refine x_goto (tgt := 29) (pc := 25) C dX7_isCoupon_25 (by decide) ?_
        exact x_sub (tX7_isCoupon_29 C hr h) (xLe_n (xLe_n (xLe_n xLe_0)))
def DX7_milesTogether_34 (l2 : Int32) (σ : Sg) : Option (Int32 × Sg) :=
  some (l2, σ)
theorem tX7_milesTogether_34 {r : Int32} {σ' : Sg} (C : Cx E p s m args meth c RX7 cX7_milesTogether 4) (hr : meth.sig.returnType = (some .int)) {l2 : Int32} {σ : Sg} (h : DX7_milesTogether_34 l2 σ = some (r, σ')) : Y E p l e (rmA 2 0 0) s m args below meth c (some (.int r)) σ' 0 0 4 0 0 σ 34 [none, none, some (.int l2), none] [] := by
  unfold DX7_milesTogether_34 at h
  refine x_iload_n (pc := 34) C dX7_milesTogether_34 rfl rfl ?_
  cases h
  exact x_iret C hr dX7_milesTogether_35
def DX7_milesTogether_4 : Nat → Nat → Int32 → Int32 → Int32 → Sg → Option (Int32 × Sg)
  | 0, _, _, _, _, _ => none
  | n + 1, l0, l1, l2, l3, σ =>
    chk (ckO σ 5 l0) <|
    chk (ckV (gR σ l0 2)) <|
    chk (ckO σ 0 (gR σ l0 2)) <|
    bnd (DX1_couponsOf (gR σ l0 2) l1 σ) fun v1 σ2 =>
    if v1 ≤ l3 then
      DX7_milesTogether_34 l2 σ2
    else
      chk (ckO σ2 5 l0) <|
      chk (ckV (gR σ2 l0 2)) <|
      chk (ckO σ2 0 (gR σ2 l0 2)) <|
      bnd (DX1_milesOf (gR σ2 l0 2) l1 l3 σ2) fun v3 σ4 =>
      DX7_milesTogether_4 n l0 l1 (l2 + v3) (l3 + (1 : Int32)) σ4
theorem tX7_milesTogether_4 {r : Int32} {σ' : Sg} (C : Cx E p s m args meth c RX7 cX7_milesTogether 4) (hr : meth.sig.returnType = (some .int)) : ∀ (n : Nat) (l0 : Nat) (l1 : Int32) (l2 : Int32) (l3 : Int32) (σ : Sg) (h : DX7_milesTogether_4 n l0 l1 l2 l3 σ = some (r, σ')), Y E p l e (rmA 2 0 0) s m args below meth c (some (.int r)) σ' 0 0 4 0 0 σ 4 [some (.ref (ad E l0)), some (.int l1), some (.int l2), some (.int l3)] [] := by
  intro n
  induction n with
  | zero => intro l0 l1 l2 l3 σ h; cases h
  | succ n ih =>
    intro l0 l1 l2 l3 σ h
    unfold DX7_milesTogether_4 at h
    refine x_iload_n (pc := 4) C dX7_milesTogether_4 rfl rfl ?_
    refine x_aload_n (pc := 5) C dX7_milesTogether_5 rfl rfl ?_
    obtain ⟨k, h⟩ := chk_s h
    have k2 := k
    obtain ⟨k, h⟩ := chk_s h
    refine x_getR (pc := 6) C fX7_20 rfl k2 k dX7_milesTogether_6 ?_
    refine x_iload_n (pc := 9) C dX7_milesTogether_9 rfl rfl ?_
    obtain ⟨k, h⟩ := chk_s h
    have k2 := k
    obtain ⟨v1, σ2, k, h⟩ := bnd_s h
    refine x_callV1 (pc := 10) C (mX1_couponsOf E l k) cl0 k2 cX7_107 nX1_couponsOf sX1_couponsOf rfl rfl (Nat.le_of_ble_eq_true rfl) ⟨Nat.le_of_ble_eq_true rfl, Nat.le_of_ble_eq_true rfl, Nat.le_of_ble_eq_true rfl, Nat.le_of_ble_eq_true rfl⟩ dX7_milesTogether_10 ?_
    refine x_icmp_ge (pc := 13) (tgt := 34) C dX7_milesTogether_13 (by decide) (fun q => ?_) (fun q => ?_)
    · rw [if_pos q] at h
      exact x_sub (tX7_milesTogether_34 C hr h) (xLe_n (xLe_n (xLe_s (xLe_n xLe_0))))
    · rw [if_neg q] at h
      refine x_iload_n (pc := 16) C dX7_milesTogether_16 rfl rfl ?_
      refine x_aload_n (pc := 17) C dX7_milesTogether_17 rfl rfl ?_
      obtain ⟨k, h⟩ := chk_s h
      have k2 := k
      obtain ⟨k, h⟩ := chk_s h
      refine x_getR (pc := 18) C fX7_20 rfl k2 k dX7_milesTogether_18 ?_
      refine x_iload_n (pc := 21) C dX7_milesTogether_21 rfl rfl ?_
      refine x_iload_n (pc := 22) C dX7_milesTogether_22 rfl rfl ?_
      obtain ⟨k, h⟩ := chk_s h
      have k2 := k
      obtain ⟨v3, σ4, k, h⟩ := bnd_s h
      refine x_callV1 (pc := 23) C (mX1_milesOf E l k) cl0 k2 cX7_191 nX1_milesOf sX1_milesOf rfl rfl (Nat.le_of_ble_eq_true rfl) ⟨Nat.le_of_ble_eq_true rfl, Nat.le_of_ble_eq_true rfl, Nat.le_of_ble_eq_true rfl, Nat.le_of_ble_eq_true rfl⟩ dX7_milesTogether_23 ?_
      refine x_iadd (pc := 26) C dX7_milesTogether_26 ?_
      refine x_istore_n (M := [some _, some _, some _, some _]) (pc := 27) C dX7_milesTogether_27 rfl (by decide) rfl ?_
      refine x_iinc (v := 1) (M := [some _, some _, some _, some _]) (pc := 28) C dX7_milesTogether_28 rfl (by decide) (by decide) rfl ?_
      refine x_goto (tgt := 4) (pc := 31) C dX7_milesTogether_31 (by decide) ?_
      exact x_sub (ih _ _ _ _ _ h) (xLe_s (xLe_s (xLe_s (xLe_s xLe_0))))
def DX7_milesTogether (l0 : Nat) (l1 : Int32) (σ : Sg) : Option (Int32 × Sg) :=
  DX7_milesTogether_4 FU l0 l1 (0 : Int32) (0 : Int32) σ
theorem mX7_milesTogether (E : Ev) (l : Launch) {l0 : Nat} {l1 : Int32} {σ : Sg} {r : Int32} {σ' : Sg} (h : DX7_milesTogether l0 l1 σ = some (r, σ')) : Mt E l yX7_milesTogether cX7_milesTogether 4 (some .int) 2 0 0 [.ref (ad E l0), .int l1] σ (some (.int r)) σ' := by
  refine Mt.ofX (by decide) (Nat.le_of_ble_eq_true rfl) (L0 := [some (.ref (ad E l0)), some (.int l1), none, none]) (xEntN_ok [.ref (ad E l0), .int l1] 4) (fun p e s m args below meth c C hr hn => ?_)
  unfold DX7_milesTogether at h
  refine x_iconst (v := 0) (pc := 0) C dX7_milesTogether_0 (by decide) ?_
  refine x_istore_n (M := [some _, some _, some _, none]) (pc := 1) C dX7_milesTogether_1 rfl (by decide) rfl ?_
  refine x_iconst (v := 0) (pc := 2) C dX7_milesTogether_2 (by decide) ?_
  refine x_istore_n (M := [some _, some _, some _, some _]) (pc := 3) C dX7_milesTogether_3 rfl (by decide) rfl ?_
  exact x_sub (tX7_milesTogether_4 C hr FU _ _ _ _ _ h) (xLe_s (xLe_s (xLe_s (xLe_s xLe_0))))
def DX7_flownTogether_37 (l2 : Int32) (σ : Sg) : Option (Int32 × Sg) :=
  some (l2, σ)
theorem tX7_flownTogether_37 {r : Int32} {σ' : Sg} (C : Cx E p s m args meth c RX7 cX7_flownTogether 4) (hr : meth.sig.returnType = (some .int)) {l2 : Int32} {σ : Sg} (h : DX7_flownTogether_37 l2 σ = some (r, σ')) : Y E p l e (rmA 1 0 0) s m args below meth c (some (.int r)) σ' 0 0 4 0 0 σ 37 [none, none, some (.int l2), none] [] := by
  unfold DX7_flownTogether_37 at h
  refine x_iload_n (pc := 37) C dX7_flownTogether_37 rfl rfl ?_
  cases h
  exact x_iret C hr dX7_flownTogether_38
def DX7_flownTogether_4 : Nat → Nat → Int32 → Int32 → Int32 → Sg → Option (Int32 × Sg)
  | 0, _, _, _, _, _ => none
  | n + 1, l0, l1, l2, l3, σ =>
    chk (ckO σ 5 l0) <|
    chk (ckV (gR σ l0 5)) <|
    chk (ckO σ 1 (gR σ l0 5)) <|
    chk (ckV (gR σ (gR σ l0 5) 1)) <|
    chk (ckI σ (gR σ (gR σ l0 5) 1) l1) <|
    if (aI σ (gR σ (gR σ l0 5) 1) l1.toNatClampNeg) ≤ l3 then
      DX7_flownTogether_37 l2 σ
    else
      chk (ckO σ 5 l0) <|
      chk (ckV (gR σ l0 5)) <|
      chk (ckO σ 1 (gR σ l0 5)) <|
      chk (ckV (gR σ (gR σ l0 5) 4)) <|
      chk (ckG σ (gR σ (gR σ l0 5) 4) l1) <|
      chk (ckR σ (gR σ (gR σ l0 5) 4) l1.toNatClampNeg l3) <|
      DX7_flownTogether_4 n l0 l1 (l2 + (aG σ (gR σ (gR σ l0 5) 4) l1.toNatClampNeg l3.toNatClampNeg)) (l3 + (1 : Int32)) σ
theorem tX7_flownTogether_4 {r : Int32} {σ' : Sg} (C : Cx E p s m args meth c RX7 cX7_flownTogether 4) (hr : meth.sig.returnType = (some .int)) : ∀ (n : Nat) (l0 : Nat) (l1 : Int32) (l2 : Int32) (l3 : Int32) (σ : Sg) (h : DX7_flownTogether_4 n l0 l1 l2 l3 σ = some (r, σ')), Y E p l e (rmA 1 0 0) s m args below meth c (some (.int r)) σ' 0 0 4 0 0 σ 4 [some (.ref (ad E l0)), some (.int l1), some (.int l2), some (.int l3)] [] := by
  intro n
  induction n with
  | zero => intro l0 l1 l2 l3 σ h; cases h
  | succ n ih =>
    intro l0 l1 l2 l3 σ h
    unfold DX7_flownTogether_4 at h
    refine x_iload_n (pc := 4) C dX7_flownTogether_4 rfl rfl ?_
    refine x_aload_n (pc := 5) C dX7_flownTogether_5 rfl rfl ?_
    obtain ⟨k, h⟩ := chk_s h
    have k2 := k
    obtain ⟨k, h⟩ := chk_s h
    refine x_getR (pc := 6) C fX7_39 rfl k2 k dX7_flownTogether_6 ?_
    obtain ⟨k, h⟩ := chk_s h
    have k2 := k
    obtain ⟨k, h⟩ := chk_s h
    refine x_getR (pc := 9) C fX7_175 rfl k2 k dX7_flownTogether_9 ?_
    refine x_iload_n (pc := 12) C dX7_flownTogether_12 rfl rfl ?_
    obtain ⟨k, h⟩ := chk_s h
    refine x_iald (pc := 13) C k dX7_flownTogether_13 ?_
    refine x_icmp_ge (pc := 14) (tgt := 37) C dX7_flownTogether_14 (by decide) (fun q => ?_) (fun q => ?_)
    · rw [if_pos q] at h
      exact x_sub (tX7_flownTogether_37 C hr h) (xLe_n (xLe_n (xLe_s (xLe_n xLe_0))))
    · rw [if_neg q] at h
      refine x_iload_n (pc := 17) C dX7_flownTogether_17 rfl rfl ?_
      refine x_aload_n (pc := 18) C dX7_flownTogether_18 rfl rfl ?_
      obtain ⟨k, h⟩ := chk_s h
      have k2 := k
      obtain ⟨k, h⟩ := chk_s h
      refine x_getR (pc := 19) C fX7_39 rfl k2 k dX7_flownTogether_19 ?_
      obtain ⟨k, h⟩ := chk_s h
      have k2 := k
      obtain ⟨k, h⟩ := chk_s h
      refine x_getR (pc := 22) C fX7_194 rfl k2 k dX7_flownTogether_22 ?_
      refine x_iload_n (pc := 25) C dX7_flownTogether_25 rfl rfl ?_
      obtain ⟨k, h⟩ := chk_s h
      refine x_gald (pc := 26) C k dX7_flownTogether_26 ?_
      refine x_iload_n (pc := 27) C dX7_flownTogether_27 rfl rfl ?_
      obtain ⟨k, h⟩ := chk_s h
      refine x_rald (pc := 28) C k dX7_flownTogether_28 ?_
      refine x_iadd (pc := 29) C dX7_flownTogether_29 ?_
      refine x_istore_n (M := [some _, some _, some _, some _]) (pc := 30) C dX7_flownTogether_30 rfl (by decide) rfl ?_
      refine x_iinc (v := 1) (M := [some _, some _, some _, some _]) (pc := 31) C dX7_flownTogether_31 rfl (by decide) (by decide) rfl ?_
      refine x_goto (tgt := 4) (pc := 34) C dX7_flownTogether_34 (by decide) ?_
      exact x_sub (ih _ _ _ _ _ h) (xLe_s (xLe_s (xLe_s (xLe_s xLe_0))))
def DX7_flownTogether (l0 : Nat) (l1 : Int32) (σ : Sg) : Option (Int32 × Sg) :=
  DX7_flownTogether_4 FU l0 l1 (0 : Int32) (0 : Int32) σ
theorem mX7_flownTogether (E : Ev) (l : Launch) {l0 : Nat} {l1 : Int32} {σ : Sg} {r : Int32} {σ' : Sg} (h : DX7_flownTogether l0 l1 σ = some (r, σ')) : Mt E l yX7_flownTogether cX7_flownTogether 4 (some .int) 1 0 0 [.ref (ad E l0), .int l1] σ (some (.int r)) σ' := by
  refine Mt.ofX (by decide) (Nat.le_of_ble_eq_true rfl) (L0 := [some (.ref (ad E l0)), some (.int l1), none, none]) (xEntN_ok [.ref (ad E l0), .int l1] 4) (fun p e s m args below meth c C hr hn => ?_)
  unfold DX7_flownTogether at h
  refine x_iconst (v := 0) (pc := 0) C dX7_flownTogether_0 (by decide) ?_
  refine x_istore_n (M := [some _, some _, some _, none]) (pc := 1) C dX7_flownTogether_1 rfl (by decide) rfl ?_
  refine x_iconst (v := 0) (pc := 2) C dX7_flownTogether_2 (by decide) ?_
  refine x_istore_n (M := [some _, some _, some _, some _]) (pc := 3) C dX7_flownTogether_3 rfl (by decide) rfl ?_
  exact x_sub (tX7_flownTogether_4 C hr FU _ _ _ _ _ h) (xLe_s (xLe_s (xLe_s (xLe_s xLe_0))))
def DX7_ticket_128 (s0 : Int32) (σ : Sg) : Option (Int32 × Sg) :=
  some (s0, σ)
theorem tX7_ticket_128 {r : Int32} {σ' : Sg} (C : Cx E p s m args meth c RX7 cX7_ticket 3) (hr : meth.sig.returnType = (some .int)) {s0 : Int32} {σ : Sg} (h : DX7_ticket_128 s0 σ = some (r, σ')) : Y E p l e (rmA 3 0 0) s m args below meth c (some (.int r)) σ' 0 0 3 0 0 σ 128 [none, none, none] [.int s0] := by
  unfold DX7_ticket_128 at h
  cases h
  exact x_iret C hr dX7_ticket_128
def DX7_ticket (l0 : Nat) (l1 : Int32) (l2 : Int32) (σ : Sg) : Option (Int32 × Sg) :=
  chk (ckO σ 5 l0) <|
  bnd (DX7_isTicket l0 l1 σ) fun v1 σ2 =>
  if v1 = 0 then
    none
  else
    if l2 = 0 then
      chk (ckO σ2 5 l0) <|
      chk (ckV (gR σ2 l0 2)) <|
      chk (ckO σ2 0 (gR σ2 l0 2)) <|
      bnd (DX1_fareOf (gR σ2 l0 2) l1 σ2) fun v3 σ4 =>
      some (v3, σ4)
    else
      if l2 = 1 then
        chk (ckO σ2 5 l0) <|
        chk (ckV (gR σ2 l0 2)) <|
        chk (ckO σ2 0 (gR σ2 l0 2)) <|
        bnd (DX1_howOf (gR σ2 l0 2) l1 σ2) fun v5 σ6 =>
        some (v5, σ6)
      else
        if l2 = 2 then
          chk (ckO σ2 5 l0) <|
          chk (ckV (gR σ2 l0 2)) <|
          chk (ckO σ2 0 (gR σ2 l0 2)) <|
          bnd (DX1_couponsOf (gR σ2 l0 2) l1 σ2) fun v7 σ8 =>
          some (v7, σ8)
        else
          if l2 = 3 then
            chk (ckO σ2 5 l0) <|
            chk (ckV (gR σ2 l0 5)) <|
            chk (ckO σ2 1 (gR σ2 l0 5)) <|
            chk (ckV (gR σ2 (gR σ2 l0 5) 1)) <|
            chk (ckI σ2 (gR σ2 (gR σ2 l0 5) 1) l1) <|
            some ((aI σ2 (gR σ2 (gR σ2 l0 5) 1) l1.toNatClampNeg), σ2)
          else
            if l2 = 4 then
              chk (ckO σ2 5 l0) <|
              chk (ckV (gR σ2 l0 5)) <|
              chk (ckO σ2 1 (gR σ2 l0 5)) <|
              chk (ckV (gR σ2 (gR σ2 l0 5) 0)) <|
              chk (ckI σ2 (gR σ2 (gR σ2 l0 5) 0) l1) <|
              some ((aI σ2 (gR σ2 (gR σ2 l0 5) 0) l1.toNatClampNeg), σ2)
            else
              if l2 = 5 then
                chk (ckO σ2 5 l0) <|
                chk (ckV (gR σ2 l0 5)) <|
                chk (ckO σ2 1 (gR σ2 l0 5)) <|
                chk (ckV (gR σ2 (gR σ2 l0 5) 2)) <|
                chk (ckZ σ2 (gR σ2 (gR σ2 l0 5) 2) l1) <|
                if (aI σ2 (gR σ2 (gR σ2 l0 5) 2) l1.toNatClampNeg) = 0 then
                  DX7_ticket_128 (0 : Int32) σ2
                else
                  DX7_ticket_128 (1 : Int32) σ2
              else
                if l2 = 6 then
                  chk (ckO σ2 5 l0) <|
                  bnd (DX7_milesTogether l0 l1 σ2) fun v9 σ10 =>
                  some (v9, σ10)
                else
                  if l2 = 7 then
                    chk (ckO σ2 5 l0) <|
                    bnd (DX7_flownTogether l0 l1 σ2) fun v11 σ12 =>
                    some (v11, σ12)
                  else
                    none
theorem mX7_ticket (E : Ev) (l : Launch) {l0 : Nat} {l1 : Int32} {l2 : Int32} {σ : Sg} {r : Int32} {σ' : Sg} (h : DX7_ticket l0 l1 l2 σ = some (r, σ')) : Mt E l yX7_ticket cX7_ticket 3 (some .int) 3 0 0 [.ref (ad E l0), .int l1, .int l2] σ (some (.int r)) σ' := by
  refine Mt.ofX (by decide) (Nat.le_of_ble_eq_true rfl) (L0 := [some (.ref (ad E l0)), some (.int l1), some (.int l2)]) (xEntN_ok [.ref (ad E l0), .int l1, .int l2] 3) (fun p e s m args below meth c C hr hn => ?_)
  unfold DX7_ticket at h
  refine x_aload_n (pc := 0) C dX7_ticket_0 rfl rfl ?_
  refine x_iload_n (pc := 1) C dX7_ticket_1 rfl rfl ?_
  obtain ⟨k, h⟩ := chk_s h
  have k2 := k
  obtain ⟨v1, σ2, k, h⟩ := bnd_s h
  refine x_callV1 (pc := 2) C (mX7_isTicket E l k) cl5 k2 cX7_103 nX7_isTicket sX7_isTicket rfl rfl (Nat.le_of_ble_eq_true rfl) ⟨Nat.le_of_ble_eq_true rfl, Nat.le_of_ble_eq_true rfl, Nat.le_of_ble_eq_true rfl, Nat.le_of_ble_eq_true rfl⟩ dX7_ticket_2 ?_
  refine x_if_ne (pc := 5) (tgt := 18) C dX7_ticket_5 (by decide) (fun q => ?_) (fun q => ?_)
  · rw [if_pos q] at h
    cases h
  · rw [if_neg q] at h
    refine x_iload_n (pc := 18) C dX7_ticket_18 rfl rfl ?_
    refine br_em (c := l2 = 0) (fun q0 => ?_) (fun q0 => ?_)
    · rw [if_pos q0] at h
      refine x_switchIn (pc := 19) (tgt := 64) C dX7_ticket_19 (by rw [q0]; decide) (by rw [q0]; decide) (o := 45) (by rw [q0]; rfl) (by decide) ?_
      refine x_aload_n (pc := 64) C dX7_ticket_64 rfl rfl ?_
      obtain ⟨k, h⟩ := chk_s h
      have k2 := k
      obtain ⟨k, h⟩ := chk_s h
      refine x_getR (pc := 65) C fX7_20 rfl k2 k dX7_ticket_65 ?_
      refine x_iload_n (pc := 68) C dX7_ticket_68 rfl rfl ?_
      obtain ⟨k, h⟩ := chk_s h
      have k2 := k
      obtain ⟨v3, σ4, k, h⟩ := bnd_s h
      refine x_callV1 (pc := 69) C (mX1_fareOf E l k) cl0 k2 cX7_169 nX1_fareOf sX1_fareOf rfl rfl (Nat.le_of_ble_eq_true rfl) ⟨Nat.le_of_ble_eq_true rfl, Nat.le_of_ble_eq_true rfl, Nat.le_of_ble_eq_true rfl, Nat.le_of_ble_eq_true rfl⟩ dX7_ticket_69 ?_
      cases h
      exact x_iret C hr dX7_ticket_72
    · rw [if_neg q0] at h
      refine br_em (c := l2 = 1) (fun q1 => ?_) (fun q1 => ?_)
      · rw [if_pos q1] at h
        refine x_switchIn (pc := 19) (tgt := 73) C dX7_ticket_19 (by rw [q1]; decide) (by rw [q1]; decide) (o := 54) (by rw [q1]; rfl) (by decide) ?_
        refine x_aload_n (pc := 73) C dX7_ticket_73 rfl rfl ?_
        obtain ⟨k, h⟩ := chk_s h
        have k2 := k
        obtain ⟨k, h⟩ := chk_s h
        refine x_getR (pc := 74) C fX7_20 rfl k2 k dX7_ticket_74 ?_
        refine x_iload_n (pc := 77) C dX7_ticket_77 rfl rfl ?_
        obtain ⟨k, h⟩ := chk_s h
        have k2 := k
        obtain ⟨v5, σ6, k, h⟩ := bnd_s h
        refine x_callV1 (pc := 78) C (mX1_howOf E l k) cl0 k2 cX7_172 nX1_howOf sX1_howOf rfl rfl (Nat.le_of_ble_eq_true rfl) ⟨Nat.le_of_ble_eq_true rfl, Nat.le_of_ble_eq_true rfl, Nat.le_of_ble_eq_true rfl, Nat.le_of_ble_eq_true rfl⟩ dX7_ticket_78 ?_
        cases h
        exact x_iret C hr dX7_ticket_81
      · rw [if_neg q1] at h
        refine br_em (c := l2 = 2) (fun q2 => ?_) (fun q2 => ?_)
        · rw [if_pos q2] at h
          refine x_switchIn (pc := 19) (tgt := 82) C dX7_ticket_19 (by rw [q2]; decide) (by rw [q2]; decide) (o := 63) (by rw [q2]; rfl) (by decide) ?_
          refine x_aload_n (pc := 82) C dX7_ticket_82 rfl rfl ?_
          obtain ⟨k, h⟩ := chk_s h
          have k2 := k
          obtain ⟨k, h⟩ := chk_s h
          refine x_getR (pc := 83) C fX7_20 rfl k2 k dX7_ticket_83 ?_
          refine x_iload_n (pc := 86) C dX7_ticket_86 rfl rfl ?_
          obtain ⟨k, h⟩ := chk_s h
          have k2 := k
          obtain ⟨v7, σ8, k, h⟩ := bnd_s h
          refine x_callV1 (pc := 87) C (mX1_couponsOf E l k) cl0 k2 cX7_107 nX1_couponsOf sX1_couponsOf rfl rfl (Nat.le_of_ble_eq_true rfl) ⟨Nat.le_of_ble_eq_true rfl, Nat.le_of_ble_eq_true rfl, Nat.le_of_ble_eq_true rfl, Nat.le_of_ble_eq_true rfl⟩ dX7_ticket_87 ?_
          cases h
          exact x_iret C hr dX7_ticket_90
        · rw [if_neg q2] at h
          refine br_em (c := l2 = 3) (fun q3 => ?_) (fun q3 => ?_)
          · rw [if_pos q3] at h
            refine x_switchIn (pc := 19) (tgt := 91) C dX7_ticket_19 (by rw [q3]; decide) (by rw [q3]; decide) (o := 72) (by rw [q3]; rfl) (by decide) ?_
            refine x_aload_n (pc := 91) C dX7_ticket_91 rfl rfl ?_
            obtain ⟨k, h⟩ := chk_s h
            have k2 := k
            obtain ⟨k, h⟩ := chk_s h
            refine x_getR (pc := 92) C fX7_39 rfl k2 k dX7_ticket_92 ?_
            obtain ⟨k, h⟩ := chk_s h
            have k2 := k
            obtain ⟨k, h⟩ := chk_s h
            refine x_getR (pc := 95) C fX7_175 rfl k2 k dX7_ticket_95 ?_
            refine x_iload_n (pc := 98) C dX7_ticket_98 rfl rfl ?_
            obtain ⟨k, h⟩ := chk_s h
            refine x_iald (pc := 99) C k dX7_ticket_99 ?_
            cases h
            exact x_iret C hr dX7_ticket_100
          · rw [if_neg q3] at h
            refine br_em (c := l2 = 4) (fun q4 => ?_) (fun q4 => ?_)
            · rw [if_pos q4] at h
              refine x_switchIn (pc := 19) (tgt := 101) C dX7_ticket_19 (by rw [q4]; decide) (by rw [q4]; decide) (o := 82) (by rw [q4]; rfl) (by decide) ?_
              refine x_aload_n (pc := 101) C dX7_ticket_101 rfl rfl ?_
              obtain ⟨k, h⟩ := chk_s h
              have k2 := k
              obtain ⟨k, h⟩ := chk_s h
              refine x_getR (pc := 102) C fX7_39 rfl k2 k dX7_ticket_102 ?_
              obtain ⟨k, h⟩ := chk_s h
              have k2 := k
              obtain ⟨k, h⟩ := chk_s h
              refine x_getR (pc := 105) C fX7_178 rfl k2 k dX7_ticket_105 ?_
              refine x_iload_n (pc := 108) C dX7_ticket_108 rfl rfl ?_
              obtain ⟨k, h⟩ := chk_s h
              refine x_iald (pc := 109) C k dX7_ticket_109 ?_
              cases h
              exact x_iret C hr dX7_ticket_110
            · rw [if_neg q4] at h
              refine br_em (c := l2 = 5) (fun q5 => ?_) (fun q5 => ?_)
              · rw [if_pos q5] at h
                refine x_switchIn (pc := 19) (tgt := 111) C dX7_ticket_19 (by rw [q5]; decide) (by rw [q5]; decide) (o := 92) (by rw [q5]; rfl) (by decide) ?_
                refine x_aload_n (pc := 111) C dX7_ticket_111 rfl rfl ?_
                obtain ⟨k, h⟩ := chk_s h
                have k2 := k
                obtain ⟨k, h⟩ := chk_s h
                refine x_getR (pc := 112) C fX7_39 rfl k2 k dX7_ticket_112 ?_
                obtain ⟨k, h⟩ := chk_s h
                have k2 := k
                obtain ⟨k, h⟩ := chk_s h
                refine x_getR (pc := 115) C fX7_181 rfl k2 k dX7_ticket_115 ?_
                refine x_iload_n (pc := 118) C dX7_ticket_118 rfl rfl ?_
                obtain ⟨k, h⟩ := chk_s h
                refine x_zald (pc := 119) C k dX7_ticket_119 ?_
                refine x_if_eq (pc := 120) (tgt := 127) C dX7_ticket_120 (by decide) (fun q => ?_) (fun q => ?_)
                · rw [if_pos q] at h
                  refine x_iconst (v := 0) (pc := 127) C dX7_ticket_127 (by decide) ?_
                  exact x_sub (tX7_ticket_128 C hr h) (xLe_n (xLe_n (xLe_n xLe_0)))
                · rw [if_neg q] at h
                  refine x_iconst (v := 1) (pc := 123) C dX7_ticket_123 (by decide) ?_
                  refine x_goto (tgt := 128) (pc := 124) C dX7_ticket_124 (by decide) ?_
                  exact x_sub (tX7_ticket_128 C hr h) (xLe_n (xLe_n (xLe_n xLe_0)))
              · rw [if_neg q5] at h
                refine br_em (c := l2 = 6) (fun q6 => ?_) (fun q6 => ?_)
                · rw [if_pos q6] at h
                  refine x_switchIn (pc := 19) (tgt := 129) C dX7_ticket_19 (by rw [q6]; decide) (by rw [q6]; decide) (o := 110) (by rw [q6]; rfl) (by decide) ?_
                  refine x_aload_n (pc := 129) C dX7_ticket_129 rfl rfl ?_
                  refine x_iload_n (pc := 130) C dX7_ticket_130 rfl rfl ?_
                  obtain ⟨k, h⟩ := chk_s h
                  have k2 := k
                  obtain ⟨v9, σ10, k, h⟩ := bnd_s h
                  refine x_callV1 (pc := 131) C (mX7_milesTogether E l k) cl5 k2 cX7_185 nX7_milesTogether sX7_milesTogether rfl rfl (Nat.le_of_ble_eq_true rfl) ⟨Nat.le_of_ble_eq_true rfl, Nat.le_of_ble_eq_true rfl, Nat.le_of_ble_eq_true rfl, Nat.le_of_ble_eq_true rfl⟩ dX7_ticket_131 ?_
                  cases h
                  exact x_iret C hr dX7_ticket_134
                · rw [if_neg q6] at h
                  refine br_em (c := l2 = 7) (fun q7 => ?_) (fun q7 => ?_)
                  · rw [if_pos q7] at h
                    refine x_switchIn (pc := 19) (tgt := 135) C dX7_ticket_19 (by rw [q7]; decide) (by rw [q7]; decide) (o := 116) (by rw [q7]; rfl) (by decide) ?_
                    refine x_aload_n (pc := 135) C dX7_ticket_135 rfl rfl ?_
                    refine x_iload_n (pc := 136) C dX7_ticket_136 rfl rfl ?_
                    obtain ⟨k, h⟩ := chk_s h
                    have k2 := k
                    obtain ⟨v11, σ12, k, h⟩ := bnd_s h
                    refine x_callV1 (pc := 137) C (mX7_flownTogether E l k) cl5 k2 cX7_188 nX7_flownTogether sX7_flownTogether rfl rfl (Nat.le_of_ble_eq_true rfl) ⟨Nat.le_of_ble_eq_true rfl, Nat.le_of_ble_eq_true rfl, Nat.le_of_ble_eq_true rfl, Nat.le_of_ble_eq_true rfl⟩ dX7_ticket_137 ?_
                    cases h
                    exact x_iret C hr dX7_ticket_140
                  · rw [if_neg q7] at h
                    have eq0 := sw_ne (k := 0) q0 (by decide)
                    have eq1 := sw_ne (k := 1) q1 (by decide)
                    have eq2 := sw_ne (k := 2) q2 (by decide)
                    have eq3 := sw_ne (k := 3) q3 (by decide)
                    have eq4 := sw_ne (k := 4) q4 (by decide)
                    have eq5 := sw_ne (k := 5) q5 (by decide)
                    have eq6 := sw_ne (k := 6) q6 (by decide)
                    have eq7 := sw_ne (k := 7) q7 (by decide)
                    refine x_switchOut (pc := 19) (tgt := 141) C dX7_ticket_19 (by omega) (by decide) ?_
                    cases h
def DX7_prorateNow (l0 : Nat) (l1 : Int32) (σ : Sg) : Option (Unit × Sg) :=
  chk (ckO σ 5 l0) <|
  chk (ckV (gR σ l0 6)) <|
  chk (ckO σ 5 l0) <|
  chk (ckV (gR σ l0 2)) <|
  chk (ckO σ 5 l0) <|
  chk (ckV (gR σ l0 5)) <|
  chk (ckO σ 4 (gR σ l0 6)) <|
  bnd (DX5_take (gR σ l0 6) (gR σ l0 2) (gR σ l0 5) l1 σ) fun _ σ1 =>
  chk (ckO σ1 5 l0) <|
  chk (ckV (gR σ1 l0 6)) <|
  chk (ckO σ1 4 (gR σ1 l0 6)) <|
  bnd (DX5_prorate (gR σ1 l0 6) σ1) fun _ σ2 =>
  some ((), σ2)
theorem mX7_prorateNow (E : Ev) (l : Launch) {l0 : Nat} {l1 : Int32} {σ : Sg} {r : Unit} {σ' : Sg} (h : DX7_prorateNow l0 l1 σ = some (r, σ')) : Mt E l yX7_prorateNow cX7_prorateNow 2 none 5 0 0 [.ref (ad E l0), .int l1] σ none σ' := by
  refine Mt.ofX (by decide) (Nat.le_of_ble_eq_true rfl) (L0 := [some (.ref (ad E l0)), some (.int l1)]) (xEntN_ok [.ref (ad E l0), .int l1] 2) (fun p e s m args below meth c C hr hn => ?_)
  unfold DX7_prorateNow at h
  refine x_aload_n (pc := 0) C dX7_prorateNow_0 rfl rfl ?_
  obtain ⟨k, h⟩ := chk_s h
  have k2 := k
  obtain ⟨k, h⟩ := chk_s h
  refine x_getR (pc := 1) C fX7_48 rfl k2 k dX7_prorateNow_1 ?_
  refine x_aload_n (pc := 4) C dX7_prorateNow_4 rfl rfl ?_
  obtain ⟨k, h⟩ := chk_s h
  have k2 := k
  obtain ⟨k, h⟩ := chk_s h
  refine x_getR (pc := 5) C fX7_20 rfl k2 k dX7_prorateNow_5 ?_
  refine x_aload_n (pc := 8) C dX7_prorateNow_8 rfl rfl ?_
  obtain ⟨k, h⟩ := chk_s h
  have k2 := k
  obtain ⟨k, h⟩ := chk_s h
  refine x_getR (pc := 9) C fX7_39 rfl k2 k dX7_prorateNow_9 ?_
  refine x_iload_n (pc := 12) C dX7_prorateNow_12 rfl rfl ?_
  obtain ⟨k, h⟩ := chk_s h
  have k2 := k
  obtain ⟨u0, σ1, k, h⟩ := bnd_s h
  refine x_callV0 (pc := 13) C (mX5_take E l k) cl4 k2 cX7_212 nX5_take sX5_take rfl rfl (Nat.le_of_ble_eq_true rfl) ⟨Nat.le_of_ble_eq_true rfl, Nat.le_of_ble_eq_true rfl, Nat.le_of_ble_eq_true rfl, Nat.le_of_ble_eq_true rfl⟩ dX7_prorateNow_13 ?_
  refine x_aload_n (pc := 16) C dX7_prorateNow_16 rfl rfl ?_
  obtain ⟨k, h⟩ := chk_s h
  have k2 := k
  obtain ⟨k, h⟩ := chk_s h
  refine x_getR (pc := 17) C fX7_48 rfl k2 k dX7_prorateNow_17 ?_
  obtain ⟨k, h⟩ := chk_s h
  have k2 := k
  obtain ⟨u0, σ2, k, h⟩ := bnd_s h
  refine x_callV0 (pc := 20) C (mX5_prorate E l k) cl4 k2 cX7_216 nX5_prorate sX5_prorate rfl rfl (Nat.le_of_ble_eq_true rfl) ⟨Nat.le_of_ble_eq_true rfl, Nat.le_of_ble_eq_true rfl, Nat.le_of_ble_eq_true rfl, Nat.le_of_ble_eq_true rfl⟩ dX7_prorateNow_20 ?_
  cases h
  exact x_vret C hr dX7_prorateNow_23
def DX7_coupon_141 (s0 : Int32) (σ : Sg) : Option (Int32 × Sg) :=
  some (s0, σ)
theorem tX7_coupon_141 {r : Int32} {σ' : Sg} (C : Cx E p s m args meth c RX7 cX7_coupon 4) (hr : meth.sig.returnType = (some .int)) {s0 : Int32} {σ : Sg} (h : DX7_coupon_141 s0 σ = some (r, σ')) : Y E p l e (rmA 6 0 0) s m args below meth c (some (.int r)) σ' 0 0 4 0 0 σ 141 [none, none, none, none] [.int s0] := by
  unfold DX7_coupon_141 at h
  cases h
  exact x_iret C hr dX7_coupon_141
def DX7_coupon_179 (s0 : Int32) (σ : Sg) : Option (Int32 × Sg) :=
  some (s0, σ)
theorem tX7_coupon_179 {r : Int32} {σ' : Sg} (C : Cx E p s m args meth c RX7 cX7_coupon 4) (hr : meth.sig.returnType = (some .int)) {s0 : Int32} {σ : Sg} (h : DX7_coupon_179 s0 σ = some (r, σ')) : Y E p l e (rmA 6 0 0) s m args below meth c (some (.int r)) σ' 0 0 4 0 0 σ 179 [none, none, none, none] [.int s0] := by
  unfold DX7_coupon_179 at h
  cases h
  exact x_iret C hr dX7_coupon_179
def DX7_coupon (l0 : Nat) (l1 : Int32) (l2 : Int32) (l3 : Int32) (σ : Sg) : Option (Int32 × Sg) :=
  chk (ckO σ 5 l0) <|
  bnd (DX7_isCoupon l0 l1 l2 σ) fun v1 σ2 =>
  if v1 = 0 then
    some ((-1 : Int32), σ2)
  else
    chk (ckO σ2 5 l0) <|
    bnd (DX7_prorateNow l0 l1 σ2) fun _ σ3 =>
    if l3 = 0 then
      chk (ckO σ3 5 l0) <|
      chk (ckV (gR σ3 l0 5)) <|
      chk (ckO σ3 1 (gR σ3 l0 5)) <|
      chk (ckV (gR σ3 (gR σ3 l0 5) 3)) <|
      chk (ckG σ3 (gR σ3 (gR σ3 l0 5) 3) l1) <|
      chk (ckR σ3 (gR σ3 (gR σ3 l0 5) 3) l1.toNatClampNeg l2) <|
      some ((aG σ3 (gR σ3 (gR σ3 l0 5) 3) l1.toNatClampNeg l2.toNatClampNeg), σ3)
    else
      if l3 = 1 then
        chk (ckO σ3 5 l0) <|
        chk (ckV (gR σ3 l0 2)) <|
        chk (ckO σ3 0 (gR σ3 l0 2)) <|
        chk (ckV (gR σ3 (gR σ3 l0 2) 19)) <|
        chk (ckG σ3 (gR σ3 (gR σ3 l0 2) 19) l1) <|
        chk (ckR σ3 (gR σ3 (gR σ3 l0 2) 19) l1.toNatClampNeg l2) <|
        some ((aG σ3 (gR σ3 (gR σ3 l0 2) 19) l1.toNatClampNeg l2.toNatClampNeg), σ3)
      else
        if l3 = 2 then
          chk (ckO σ3 5 l0) <|
          chk (ckV (gR σ3 l0 2)) <|
          chk (ckO σ3 0 (gR σ3 l0 2)) <|
          chk (ckV (gR σ3 (gR σ3 l0 2) 19)) <|
          chk (ckG σ3 (gR σ3 (gR σ3 l0 2) 19) l1) <|
          chk (ckR σ3 (gR σ3 (gR σ3 l0 2) 19) l1.toNatClampNeg (l2 + (1 : Int32))) <|
          some ((aG σ3 (gR σ3 (gR σ3 l0 2) 19) l1.toNatClampNeg (l2 + (1 : Int32)).toNatClampNeg), σ3)
        else
          if l3 = 3 then
            chk (ckO σ3 5 l0) <|
            chk (ckV (gR σ3 l0 2)) <|
            chk (ckO σ3 0 (gR σ3 l0 2)) <|
            bnd (DX1_milesOf (gR σ3 l0 2) l1 l2 σ3) fun v4 σ5 =>
            some (v4, σ5)
          else
            if l3 = 4 then
              chk (ckO σ3 5 l0) <|
              chk (ckV (gR σ3 l0 6)) <|
              chk (ckO σ3 4 (gR σ3 l0 6)) <|
              chk (ckV (gR σ3 (gR σ3 l0 6) 11)) <|
              chk (ckJ σ3 (gR σ3 (gR σ3 l0 6) 11) l2) <|
              some ((aJ σ3 (gR σ3 (gR σ3 l0 6) 11) l2.toNatClampNeg).toInt32, σ3)
            else
              if l3 = 5 then
                chk (ckO σ3 5 l0) <|
                chk (ckV (gR σ3 l0 5)) <|
                chk (ckO σ3 1 (gR σ3 l0 5)) <|
                chk (ckV (gR σ3 (gR σ3 l0 5) 1)) <|
                chk (ckI σ3 (gR σ3 (gR σ3 l0 5) 1) l1) <|
                if (aI σ3 (gR σ3 (gR σ3 l0 5) 1) l1.toNatClampNeg) ≤ l2 then
                  DX7_coupon_141 (0 : Int32) σ3
                else
                  DX7_coupon_141 (1 : Int32) σ3
              else
                if l3 = 6 then
                  chk (ckO σ3 5 l0) <|
                  chk (ckV (gR σ3 l0 6)) <|
                  chk (ckO σ3 4 (gR σ3 l0 6)) <|
                  chk (ckV (gR σ3 (gR σ3 l0 6) 9)) <|
                  chk (ckI σ3 (gR σ3 (gR σ3 l0 6) 9) l2) <|
                  some ((aI σ3 (gR σ3 (gR σ3 l0 6) 9) l2.toNatClampNeg), σ3)
                else
                  if l3 = 7 then
                    chk (ckO σ3 5 l0) <|
                    chk (ckV (gR σ3 l0 6)) <|
                    chk (ckO σ3 4 (gR σ3 l0 6)) <|
                    chk (ckV (gR σ3 (gR σ3 l0 6) 7)) <|
                    chk (ckI σ3 (gR σ3 (gR σ3 l0 6) 7) l2) <|
                    if (aI σ3 (gR σ3 (gR σ3 l0 6) 7) l2.toNatClampNeg) = (-1 : Int32) then
                      DX7_coupon_179 (-2 : Int32) σ3
                    else
                      chk (ckO σ3 5 l0) <|
                      chk (ckV (gR σ3 l0 6)) <|
                      chk (ckO σ3 4 (gR σ3 l0 6)) <|
                      chk (ckV (gR σ3 (gR σ3 l0 6) 7)) <|
                      chk (ckI σ3 (gR σ3 (gR σ3 l0 6) 7) l2) <|
                      DX7_coupon_179 (aI σ3 (gR σ3 (gR σ3 l0 6) 7) l2.toNatClampNeg) σ3
                  else
                    some ((-1 : Int32), σ3)
theorem mX7_coupon (E : Ev) (l : Launch) {l0 : Nat} {l1 : Int32} {l2 : Int32} {l3 : Int32} {σ : Sg} {r : Int32} {σ' : Sg} (h : DX7_coupon l0 l1 l2 l3 σ = some (r, σ')) : Mt E l yX7_coupon cX7_coupon 4 (some .int) 6 0 0 [.ref (ad E l0), .int l1, .int l2, .int l3] σ (some (.int r)) σ' := by
  refine Mt.ofX (by decide) (Nat.le_of_ble_eq_true rfl) (L0 := [some (.ref (ad E l0)), some (.int l1), some (.int l2), some (.int l3)]) (xEntN_ok [.ref (ad E l0), .int l1, .int l2, .int l3] 4) (fun p e s m args below meth c C hr hn => ?_)
  unfold DX7_coupon at h
  refine x_aload_n (pc := 0) C dX7_coupon_0 rfl rfl ?_
  refine x_iload_n (pc := 1) C dX7_coupon_1 rfl rfl ?_
  refine x_iload_n (pc := 2) C dX7_coupon_2 rfl rfl ?_
  obtain ⟨k, h⟩ := chk_s h
  have k2 := k
  obtain ⟨v1, σ2, k, h⟩ := bnd_s h
  refine x_callV1 (pc := 3) C (mX7_isCoupon E l k) cl5 k2 cX7_197 nX7_isCoupon sX7_isCoupon rfl rfl (Nat.le_of_ble_eq_true rfl) ⟨Nat.le_of_ble_eq_true rfl, Nat.le_of_ble_eq_true rfl, Nat.le_of_ble_eq_true rfl, Nat.le_of_ble_eq_true rfl⟩ dX7_coupon_3 ?_
  refine x_if_ne (pc := 6) (tgt := 11) C dX7_coupon_6 (by decide) (fun q => ?_) (fun q => ?_)
  · rw [if_pos q] at h
    refine x_iconst (v := -1) (pc := 9) C dX7_coupon_9 (by decide) ?_
    cases h
    exact x_iret C hr dX7_coupon_10
  · rw [if_neg q] at h
    refine x_aload_n (pc := 11) C dX7_coupon_11 rfl rfl ?_
    refine x_iload_n (pc := 12) C dX7_coupon_12 rfl rfl ?_
    obtain ⟨k, h⟩ := chk_s h
    have k2 := k
    obtain ⟨u0, σ3, k, h⟩ := bnd_s h
    refine x_callV0 (pc := 13) C (mX7_prorateNow E l k) cl5 k2 cX7_158 nX7_prorateNow sX7_prorateNow rfl rfl (Nat.le_of_ble_eq_true rfl) ⟨Nat.le_of_ble_eq_true rfl, Nat.le_of_ble_eq_true rfl, Nat.le_of_ble_eq_true rfl, Nat.le_of_ble_eq_true rfl⟩ dX7_coupon_13 ?_
    refine x_iload_n (pc := 16) C dX7_coupon_16 rfl rfl ?_
    refine br_em (c := l3 = 0) (fun q0 => ?_) (fun q0 => ?_)
    · rw [if_pos q0] at h
      refine x_switchIn (pc := 17) (tgt := 64) C dX7_coupon_17 (by rw [q0]; decide) (by rw [q0]; decide) (o := 47) (by rw [q0]; rfl) (by decide) ?_
      refine x_aload_n (pc := 64) C dX7_coupon_64 rfl rfl ?_
      obtain ⟨k, h⟩ := chk_s h
      have k2 := k
      obtain ⟨k, h⟩ := chk_s h
      refine x_getR (pc := 65) C fX7_39 rfl k2 k dX7_coupon_65 ?_
      obtain ⟨k, h⟩ := chk_s h
      have k2 := k
      obtain ⟨k, h⟩ := chk_s h
      refine x_getR (pc := 68) C fX7_200 rfl k2 k dX7_coupon_68 ?_
      refine x_iload_n (pc := 71) C dX7_coupon_71 rfl rfl ?_
      obtain ⟨k, h⟩ := chk_s h
      refine x_gald (pc := 72) C k dX7_coupon_72 ?_
      refine x_iload_n (pc := 73) C dX7_coupon_73 rfl rfl ?_
      obtain ⟨k, h⟩ := chk_s h
      refine x_rald (pc := 74) C k dX7_coupon_74 ?_
      cases h
      exact x_iret C hr dX7_coupon_75
    · rw [if_neg q0] at h
      refine br_em (c := l3 = 1) (fun q1 => ?_) (fun q1 => ?_)
      · rw [if_pos q1] at h
        refine x_switchIn (pc := 17) (tgt := 76) C dX7_coupon_17 (by rw [q1]; decide) (by rw [q1]; decide) (o := 59) (by rw [q1]; rfl) (by decide) ?_
        refine x_aload_n (pc := 76) C dX7_coupon_76 rfl rfl ?_
        obtain ⟨k, h⟩ := chk_s h
        have k2 := k
        obtain ⟨k, h⟩ := chk_s h
        refine x_getR (pc := 77) C fX7_20 rfl k2 k dX7_coupon_77 ?_
        obtain ⟨k, h⟩ := chk_s h
        have k2 := k
        obtain ⟨k, h⟩ := chk_s h
        refine x_getR (pc := 80) C fX7_202 rfl k2 k dX7_coupon_80 ?_
        refine x_iload_n (pc := 83) C dX7_coupon_83 rfl rfl ?_
        obtain ⟨k, h⟩ := chk_s h
        refine x_gald (pc := 84) C k dX7_coupon_84 ?_
        refine x_iload_n (pc := 85) C dX7_coupon_85 rfl rfl ?_
        obtain ⟨k, h⟩ := chk_s h
        refine x_rald (pc := 86) C k dX7_coupon_86 ?_
        cases h
        exact x_iret C hr dX7_coupon_87
      · rw [if_neg q1] at h
        refine br_em (c := l3 = 2) (fun q2 => ?_) (fun q2 => ?_)
        · rw [if_pos q2] at h
          refine x_switchIn (pc := 17) (tgt := 88) C dX7_coupon_17 (by rw [q2]; decide) (by rw [q2]; decide) (o := 71) (by rw [q2]; rfl) (by decide) ?_
          refine x_aload_n (pc := 88) C dX7_coupon_88 rfl rfl ?_
          obtain ⟨k, h⟩ := chk_s h
          have k2 := k
          obtain ⟨k, h⟩ := chk_s h
          refine x_getR (pc := 89) C fX7_20 rfl k2 k dX7_coupon_89 ?_
          obtain ⟨k, h⟩ := chk_s h
          have k2 := k
          obtain ⟨k, h⟩ := chk_s h
          refine x_getR (pc := 92) C fX7_202 rfl k2 k dX7_coupon_92 ?_
          refine x_iload_n (pc := 95) C dX7_coupon_95 rfl rfl ?_
          obtain ⟨k, h⟩ := chk_s h
          refine x_gald (pc := 96) C k dX7_coupon_96 ?_
          refine x_iload_n (pc := 97) C dX7_coupon_97 rfl rfl ?_
          refine x_iconst (v := 1) (pc := 98) C dX7_coupon_98 (by decide) ?_
          refine x_iadd (pc := 99) C dX7_coupon_99 ?_
          obtain ⟨k, h⟩ := chk_s h
          refine x_rald (pc := 100) C k dX7_coupon_100 ?_
          cases h
          exact x_iret C hr dX7_coupon_101
        · rw [if_neg q2] at h
          refine br_em (c := l3 = 3) (fun q3 => ?_) (fun q3 => ?_)
          · rw [if_pos q3] at h
            refine x_switchIn (pc := 17) (tgt := 102) C dX7_coupon_17 (by rw [q3]; decide) (by rw [q3]; decide) (o := 85) (by rw [q3]; rfl) (by decide) ?_
            refine x_aload_n (pc := 102) C dX7_coupon_102 rfl rfl ?_
            obtain ⟨k, h⟩ := chk_s h
            have k2 := k
            obtain ⟨k, h⟩ := chk_s h
            refine x_getR (pc := 103) C fX7_20 rfl k2 k dX7_coupon_103 ?_
            refine x_iload_n (pc := 106) C dX7_coupon_106 rfl rfl ?_
            refine x_iload_n (pc := 107) C dX7_coupon_107 rfl rfl ?_
            obtain ⟨k, h⟩ := chk_s h
            have k2 := k
            obtain ⟨v4, σ5, k, h⟩ := bnd_s h
            refine x_callV1 (pc := 108) C (mX1_milesOf E l k) cl0 k2 cX7_191 nX1_milesOf sX1_milesOf rfl rfl (Nat.le_of_ble_eq_true rfl) ⟨Nat.le_of_ble_eq_true rfl, Nat.le_of_ble_eq_true rfl, Nat.le_of_ble_eq_true rfl, Nat.le_of_ble_eq_true rfl⟩ dX7_coupon_108 ?_
            cases h
            exact x_iret C hr dX7_coupon_111
          · rw [if_neg q3] at h
            refine br_em (c := l3 = 4) (fun q4 => ?_) (fun q4 => ?_)
            · rw [if_pos q4] at h
              refine x_switchIn (pc := 17) (tgt := 112) C dX7_coupon_17 (by rw [q4]; decide) (by rw [q4]; decide) (o := 95) (by rw [q4]; rfl) (by decide) ?_
              refine x_aload_n (pc := 112) C dX7_coupon_112 rfl rfl ?_
              obtain ⟨k, h⟩ := chk_s h
              have k2 := k
              obtain ⟨k, h⟩ := chk_s h
              refine x_getR (pc := 113) C fX7_48 rfl k2 k dX7_coupon_113 ?_
              obtain ⟨k, h⟩ := chk_s h
              have k2 := k
              obtain ⟨k, h⟩ := chk_s h
              refine x_getR (pc := 116) C fX7_205 rfl k2 k dX7_coupon_116 ?_
              refine x_iload_n (pc := 119) C dX7_coupon_119 rfl rfl ?_
              obtain ⟨k, h⟩ := chk_s h
              refine x_lald (pc := 120) C k dX7_coupon_120 ?_
              refine x_l2i (pc := 121) C dX7_coupon_121 ?_
              cases h
              exact x_iret C hr dX7_coupon_122
            · rw [if_neg q4] at h
              refine br_em (c := l3 = 5) (fun q5 => ?_) (fun q5 => ?_)
              · rw [if_pos q5] at h
                refine x_switchIn (pc := 17) (tgt := 123) C dX7_coupon_17 (by rw [q5]; decide) (by rw [q5]; decide) (o := 106) (by rw [q5]; rfl) (by decide) ?_
                refine x_iload_n (pc := 123) C dX7_coupon_123 rfl rfl ?_
                refine x_aload_n (pc := 124) C dX7_coupon_124 rfl rfl ?_
                obtain ⟨k, h⟩ := chk_s h
                have k2 := k
                obtain ⟨k, h⟩ := chk_s h
                refine x_getR (pc := 125) C fX7_39 rfl k2 k dX7_coupon_125 ?_
                obtain ⟨k, h⟩ := chk_s h
                have k2 := k
                obtain ⟨k, h⟩ := chk_s h
                refine x_getR (pc := 128) C fX7_175 rfl k2 k dX7_coupon_128 ?_
                refine x_iload_n (pc := 131) C dX7_coupon_131 rfl rfl ?_
                obtain ⟨k, h⟩ := chk_s h
                refine x_iald (pc := 132) C k dX7_coupon_132 ?_
                refine x_icmp_ge (pc := 133) (tgt := 140) C dX7_coupon_133 (by decide) (fun q => ?_) (fun q => ?_)
                · rw [if_pos q] at h
                  refine x_iconst (v := 0) (pc := 140) C dX7_coupon_140 (by decide) ?_
                  exact x_sub (tX7_coupon_141 C hr h) (xLe_n (xLe_n (xLe_n (xLe_n xLe_0))))
                · rw [if_neg q] at h
                  refine x_iconst (v := 1) (pc := 136) C dX7_coupon_136 (by decide) ?_
                  refine x_goto (tgt := 141) (pc := 137) C dX7_coupon_137 (by decide) ?_
                  exact x_sub (tX7_coupon_141 C hr h) (xLe_n (xLe_n (xLe_n (xLe_n xLe_0))))
              · rw [if_neg q5] at h
                refine br_em (c := l3 = 6) (fun q6 => ?_) (fun q6 => ?_)
                · rw [if_pos q6] at h
                  refine x_switchIn (pc := 17) (tgt := 142) C dX7_coupon_17 (by rw [q6]; decide) (by rw [q6]; decide) (o := 125) (by rw [q6]; rfl) (by decide) ?_
                  refine x_aload_n (pc := 142) C dX7_coupon_142 rfl rfl ?_
                  obtain ⟨k, h⟩ := chk_s h
                  have k2 := k
                  obtain ⟨k, h⟩ := chk_s h
                  refine x_getR (pc := 143) C fX7_48 rfl k2 k dX7_coupon_143 ?_
                  obtain ⟨k, h⟩ := chk_s h
                  have k2 := k
                  obtain ⟨k, h⟩ := chk_s h
                  refine x_getR (pc := 146) C fX7_209 rfl k2 k dX7_coupon_146 ?_
                  refine x_iload_n (pc := 149) C dX7_coupon_149 rfl rfl ?_
                  obtain ⟨k, h⟩ := chk_s h
                  refine x_iald (pc := 150) C k dX7_coupon_150 ?_
                  cases h
                  exact x_iret C hr dX7_coupon_151
                · rw [if_neg q6] at h
                  refine br_em (c := l3 = 7) (fun q7 => ?_) (fun q7 => ?_)
                  · rw [if_pos q7] at h
                    refine x_switchIn (pc := 17) (tgt := 152) C dX7_coupon_17 (by rw [q7]; decide) (by rw [q7]; decide) (o := 135) (by rw [q7]; rfl) (by decide) ?_
                    refine x_aload_n (pc := 152) C dX7_coupon_152 rfl rfl ?_
                    obtain ⟨k, h⟩ := chk_s h
                    have k2 := k
                    obtain ⟨k, h⟩ := chk_s h
                    refine x_getR (pc := 153) C fX7_48 rfl k2 k dX7_coupon_153 ?_
                    obtain ⟨k, h⟩ := chk_s h
                    have k2 := k
                    obtain ⟨k, h⟩ := chk_s h
                    refine x_getR (pc := 156) C fX7_164 rfl k2 k dX7_coupon_156 ?_
                    refine x_iload_n (pc := 159) C dX7_coupon_159 rfl rfl ?_
                    obtain ⟨k, h⟩ := chk_s h
                    refine x_iald (pc := 160) C k dX7_coupon_160 ?_
                    refine x_iconst (v := -1) (pc := 161) C dX7_coupon_161 (by decide) ?_
                    refine x_icmp_ne (pc := 162) (tgt := 170) C dX7_coupon_162 (by decide) (fun q => ?_) (fun q => ?_)
                    · rw [if_pos q] at h
                      refine x_bipush (v := -2) (pc := 165) C dX7_coupon_165 (by decide) ?_
                      refine x_goto (tgt := 179) (pc := 167) C dX7_coupon_167 (by decide) ?_
                      exact x_sub (tX7_coupon_179 C hr h) (xLe_n (xLe_n (xLe_n (xLe_n xLe_0))))
                    · rw [if_neg q] at h
                      refine x_aload_n (pc := 170) C dX7_coupon_170 rfl rfl ?_
                      obtain ⟨k, h⟩ := chk_s h
                      have k2 := k
                      obtain ⟨k, h⟩ := chk_s h
                      refine x_getR (pc := 171) C fX7_48 rfl k2 k dX7_coupon_171 ?_
                      obtain ⟨k, h⟩ := chk_s h
                      have k2 := k
                      obtain ⟨k, h⟩ := chk_s h
                      refine x_getR (pc := 174) C fX7_164 rfl k2 k dX7_coupon_174 ?_
                      refine x_iload_n (pc := 177) C dX7_coupon_177 rfl rfl ?_
                      obtain ⟨k, h⟩ := chk_s h
                      refine x_iald (pc := 178) C k dX7_coupon_178 ?_
                      exact x_sub (tX7_coupon_179 C hr h) (xLe_n (xLe_n (xLe_n (xLe_n xLe_0))))
                  · rw [if_neg q7] at h
                    have eq0 := sw_ne (k := 0) q0 (by decide)
                    have eq1 := sw_ne (k := 1) q1 (by decide)
                    have eq2 := sw_ne (k := 2) q2 (by decide)
                    have eq3 := sw_ne (k := 3) q3 (by decide)
                    have eq4 := sw_ne (k := 4) q4 (by decide)
                    have eq5 := sw_ne (k := 5) q5 (by decide)
                    have eq6 := sw_ne (k := 6) q6 (by decide)
                    have eq7 := sw_ne (k := 7) q7 (by decide)
                    refine x_switchOut (pc := 17) (tgt := 180) C dX7_coupon_17 (by omega) (by decide) ?_
                    refine x_iconst (v := -1) (pc := 180) C dX7_coupon_180 (by decide) ?_
                    cases h
                    exact x_iret C hr dX7_coupon_181
def DX7_prorateStraight (l0 : Nat) (l1 : Int32) (σ : Sg) : Option (Unit × Sg) :=
  chk (ckO σ 5 l0) <|
  chk (ckV (gR σ l0 6)) <|
  chk (ckO σ 5 l0) <|
  chk (ckV (gR σ l0 2)) <|
  chk (ckO σ 5 l0) <|
  chk (ckV (gR σ l0 5)) <|
  chk (ckO σ 4 (gR σ l0 6)) <|
  bnd (DX5_take (gR σ l0 6) (gR σ l0 2) (gR σ l0 5) l1 σ) fun _ σ1 =>
  chk (ckO σ1 5 l0) <|
  chk (ckV (gR σ1 l0 6)) <|
  chk (ckO σ1 4 (gR σ1 l0 6)) <|
  bnd (DX5_forgetProvisosAndFlown (gR σ1 l0 6) σ1) fun _ σ2 =>
  chk (ckO σ2 5 l0) <|
  chk (ckV (gR σ2 l0 6)) <|
  chk (ckO σ2 4 (gR σ2 l0 6)) <|
  bnd (DX5_prorate (gR σ2 l0 6) σ2) fun _ σ3 =>
  some ((), σ3)
theorem mX7_prorateStraight (E : Ev) (l : Launch) {l0 : Nat} {l1 : Int32} {σ : Sg} {r : Unit} {σ' : Sg} (h : DX7_prorateStraight l0 l1 σ = some (r, σ')) : Mt E l yX7_prorateStraight cX7_prorateStraight 2 none 5 0 0 [.ref (ad E l0), .int l1] σ none σ' := by
  refine Mt.ofX (by decide) (Nat.le_of_ble_eq_true rfl) (L0 := [some (.ref (ad E l0)), some (.int l1)]) (xEntN_ok [.ref (ad E l0), .int l1] 2) (fun p e s m args below meth c C hr hn => ?_)
  unfold DX7_prorateStraight at h
  refine x_aload_n (pc := 0) C dX7_prorateStraight_0 rfl rfl ?_
  obtain ⟨k, h⟩ := chk_s h
  have k2 := k
  obtain ⟨k, h⟩ := chk_s h
  refine x_getR (pc := 1) C fX7_48 rfl k2 k dX7_prorateStraight_1 ?_
  refine x_aload_n (pc := 4) C dX7_prorateStraight_4 rfl rfl ?_
  obtain ⟨k, h⟩ := chk_s h
  have k2 := k
  obtain ⟨k, h⟩ := chk_s h
  refine x_getR (pc := 5) C fX7_20 rfl k2 k dX7_prorateStraight_5 ?_
  refine x_aload_n (pc := 8) C dX7_prorateStraight_8 rfl rfl ?_
  obtain ⟨k, h⟩ := chk_s h
  have k2 := k
  obtain ⟨k, h⟩ := chk_s h
  refine x_getR (pc := 9) C fX7_39 rfl k2 k dX7_prorateStraight_9 ?_
  refine x_iload_n (pc := 12) C dX7_prorateStraight_12 rfl rfl ?_
  obtain ⟨k, h⟩ := chk_s h
  have k2 := k
  obtain ⟨u0, σ1, k, h⟩ := bnd_s h
  refine x_callV0 (pc := 13) C (mX5_take E l k) cl4 k2 cX7_212 nX5_take sX5_take rfl rfl (Nat.le_of_ble_eq_true rfl) ⟨Nat.le_of_ble_eq_true rfl, Nat.le_of_ble_eq_true rfl, Nat.le_of_ble_eq_true rfl, Nat.le_of_ble_eq_true rfl⟩ dX7_prorateStraight_13 ?_
  refine x_aload_n (pc := 16) C dX7_prorateStraight_16 rfl rfl ?_
  obtain ⟨k, h⟩ := chk_s h
  have k2 := k
  obtain ⟨k, h⟩ := chk_s h
  refine x_getR (pc := 17) C fX7_48 rfl k2 k dX7_prorateStraight_17 ?_
  obtain ⟨k, h⟩ := chk_s h
  have k2 := k
  obtain ⟨u0, σ2, k, h⟩ := bnd_s h
  refine x_callV0 (pc := 20) C (mX5_forgetProvisosAndFlown E l k) cl4 k2 cX7_219 nX5_forgetProvisosAndFlown sX5_forgetProvisosAndFlown rfl rfl (Nat.le_of_ble_eq_true rfl) ⟨Nat.le_of_ble_eq_true rfl, Nat.le_of_ble_eq_true rfl, Nat.le_of_ble_eq_true rfl, Nat.le_of_ble_eq_true rfl⟩ dX7_prorateStraight_20 ?_
  refine x_aload_n (pc := 23) C dX7_prorateStraight_23 rfl rfl ?_
  obtain ⟨k, h⟩ := chk_s h
  have k2 := k
  obtain ⟨k, h⟩ := chk_s h
  refine x_getR (pc := 24) C fX7_48 rfl k2 k dX7_prorateStraight_24 ?_
  obtain ⟨k, h⟩ := chk_s h
  have k2 := k
  obtain ⟨u0, σ3, k, h⟩ := bnd_s h
  refine x_callV0 (pc := 27) C (mX5_prorate E l k) cl4 k2 cX7_216 nX5_prorate sX5_prorate rfl rfl (Nat.le_of_ble_eq_true rfl) ⟨Nat.le_of_ble_eq_true rfl, Nat.le_of_ble_eq_true rfl, Nat.le_of_ble_eq_true rfl, Nat.le_of_ble_eq_true rfl⟩ dX7_prorateStraight_27 ?_
  cases h
  exact x_vret C hr dX7_prorateStraight_30
def DX7_prorateWithout (l0 : Nat) (l1 : Int32) (l2 : Int32) (σ : Sg) : Option (Unit × Sg) :=
  chk (ckO σ 5 l0) <|
  chk (ckV (gR σ l0 6)) <|
  chk (ckO σ 5 l0) <|
  chk (ckV (gR σ l0 2)) <|
  chk (ckO σ 5 l0) <|
  chk (ckV (gR σ l0 5)) <|
  chk (ckO σ 4 (gR σ l0 6)) <|
  bnd (DX5_take (gR σ l0 6) (gR σ l0 2) (gR σ l0 5) l2 σ) fun _ σ1 =>
  chk (ckO σ1 5 l0) <|
  chk (ckV (gR σ1 l0 6)) <|
  chk (ckO σ1 4 (gR σ1 l0 6)) <|
  wlet (pI σ1 (gR σ1 l0 6) 5 l1) fun σ2 =>
  chk (ckO σ2 5 l0) <|
  chk (ckV (gR σ2 l0 6)) <|
  chk (ckO σ2 4 (gR σ2 l0 6)) <|
  bnd (DX5_prorate (gR σ2 l0 6) σ2) fun _ σ3 =>
  some ((), σ3)
theorem mX7_prorateWithout (E : Ev) (l : Launch) {l0 : Nat} {l1 : Int32} {l2 : Int32} {σ : Sg} {r : Unit} {σ' : Sg} (h : DX7_prorateWithout l0 l1 l2 σ = some (r, σ')) : Mt E l yX7_prorateWithout cX7_prorateWithout 3 none 5 0 0 [.ref (ad E l0), .int l1, .int l2] σ none σ' := by
  refine Mt.ofX (by decide) (Nat.le_of_ble_eq_true rfl) (L0 := [some (.ref (ad E l0)), some (.int l1), some (.int l2)]) (xEntN_ok [.ref (ad E l0), .int l1, .int l2] 3) (fun p e s m args below meth c C hr hn => ?_)
  unfold DX7_prorateWithout at h
  refine x_aload_n (pc := 0) C dX7_prorateWithout_0 rfl rfl ?_
  obtain ⟨k, h⟩ := chk_s h
  have k2 := k
  obtain ⟨k, h⟩ := chk_s h
  refine x_getR (pc := 1) C fX7_48 rfl k2 k dX7_prorateWithout_1 ?_
  refine x_aload_n (pc := 4) C dX7_prorateWithout_4 rfl rfl ?_
  obtain ⟨k, h⟩ := chk_s h
  have k2 := k
  obtain ⟨k, h⟩ := chk_s h
  refine x_getR (pc := 5) C fX7_20 rfl k2 k dX7_prorateWithout_5 ?_
  refine x_aload_n (pc := 8) C dX7_prorateWithout_8 rfl rfl ?_
  obtain ⟨k, h⟩ := chk_s h
  have k2 := k
  obtain ⟨k, h⟩ := chk_s h
  refine x_getR (pc := 9) C fX7_39 rfl k2 k dX7_prorateWithout_9 ?_
  refine x_iload_n (pc := 12) C dX7_prorateWithout_12 rfl rfl ?_
  obtain ⟨k, h⟩ := chk_s h
  have k2 := k
  obtain ⟨u0, σ1, k, h⟩ := bnd_s h
  refine x_callV0 (pc := 13) C (mX5_take E l k) cl4 k2 cX7_212 nX5_take sX5_take rfl rfl (Nat.le_of_ble_eq_true rfl) ⟨Nat.le_of_ble_eq_true rfl, Nat.le_of_ble_eq_true rfl, Nat.le_of_ble_eq_true rfl, Nat.le_of_ble_eq_true rfl⟩ dX7_prorateWithout_13 ?_
  refine x_aload_n (pc := 16) C dX7_prorateWithout_16 rfl rfl ?_
  obtain ⟨k, h⟩ := chk_s h
  have k2 := k
  obtain ⟨k, h⟩ := chk_s h
  refine x_getR (pc := 17) C fX7_48 rfl k2 k dX7_prorateWithout_17 ?_
  refine x_iload_n (pc := 20) C dX7_prorateWithout_20 rfl rfl ?_
  obtain ⟨k, h⟩ := chk_s h
  obtain ⟨σ2, e1, h⟩ := wlet_s h
  refine x_putI (pc := 21) C pX7_222 rfl k dX7_prorateWithout_21 (x_eq e1 ?_)
  refine x_aload_n (pc := 24) C dX7_prorateWithout_24 rfl rfl ?_
  obtain ⟨k, h⟩ := chk_s h
  have k2 := k
  obtain ⟨k, h⟩ := chk_s h
  refine x_getR (pc := 25) C fX7_48 rfl k2 k dX7_prorateWithout_25 ?_
  obtain ⟨k, h⟩ := chk_s h
  have k2 := k
  obtain ⟨u0, σ3, k, h⟩ := bnd_s h
  refine x_callV0 (pc := 28) C (mX5_prorate E l k) cl4 k2 cX7_216 nX5_prorate sX5_prorate rfl rfl (Nat.le_of_ble_eq_true rfl) ⟨Nat.le_of_ble_eq_true rfl, Nat.le_of_ble_eq_true rfl, Nat.le_of_ble_eq_true rfl, Nat.le_of_ble_eq_true rfl⟩ dX7_prorateWithout_28 ?_
  cases h
  exact x_vret C hr dX7_prorateWithout_31
def DX7_shareNow (l0 : Nat) (l1 : Int32) (l2 : Int32) (σ : Sg) : Option (Int32 × Sg) :=
  chk (ckO σ 5 l0) <|
  bnd (DX7_prorateNow l0 l1 σ) fun _ σ1 =>
  chk (ckO σ1 5 l0) <|
  chk (ckV (gR σ1 l0 6)) <|
  chk (ckO σ1 4 (gR σ1 l0 6)) <|
  chk (ckV (gR σ1 (gR σ1 l0 6) 12)) <|
  chk (ckI σ1 (gR σ1 (gR σ1 l0 6) 12) l2) <|
  some ((aI σ1 (gR σ1 (gR σ1 l0 6) 12) l2.toNatClampNeg), σ1)
theorem mX7_shareNow (E : Ev) (l : Launch) {l0 : Nat} {l1 : Int32} {l2 : Int32} {σ : Sg} {r : Int32} {σ' : Sg} (h : DX7_shareNow l0 l1 l2 σ = some (r, σ')) : Mt E l yX7_shareNow cX7_shareNow 3 (some .int) 6 0 0 [.ref (ad E l0), .int l1, .int l2] σ (some (.int r)) σ' := by
  refine Mt.ofX (by decide) (Nat.le_of_ble_eq_true rfl) (L0 := [some (.ref (ad E l0)), some (.int l1), some (.int l2)]) (xEntN_ok [.ref (ad E l0), .int l1, .int l2] 3) (fun p e s m args below meth c C hr hn => ?_)
  unfold DX7_shareNow at h
  refine x_aload_n (pc := 0) C dX7_shareNow_0 rfl rfl ?_
  refine x_iload_n (pc := 1) C dX7_shareNow_1 rfl rfl ?_
  obtain ⟨k, h⟩ := chk_s h
  have k2 := k
  obtain ⟨u0, σ1, k, h⟩ := bnd_s h
  refine x_callV0 (pc := 2) C (mX7_prorateNow E l k) cl5 k2 cX7_158 nX7_prorateNow sX7_prorateNow rfl rfl (Nat.le_of_ble_eq_true rfl) ⟨Nat.le_of_ble_eq_true rfl, Nat.le_of_ble_eq_true rfl, Nat.le_of_ble_eq_true rfl, Nat.le_of_ble_eq_true rfl⟩ dX7_shareNow_2 ?_
  refine x_aload_n (pc := 5) C dX7_shareNow_5 rfl rfl ?_
  obtain ⟨k, h⟩ := chk_s h
  have k2 := k
  obtain ⟨k, h⟩ := chk_s h
  refine x_getR (pc := 6) C fX7_48 rfl k2 k dX7_shareNow_6 ?_
  obtain ⟨k, h⟩ := chk_s h
  have k2 := k
  obtain ⟨k, h⟩ := chk_s h
  refine x_getR (pc := 9) C fX7_225 rfl k2 k dX7_shareNow_9 ?_
  refine x_iload_n (pc := 12) C dX7_shareNow_12 rfl rfl ?_
  obtain ⟨k, h⟩ := chk_s h
  refine x_iald (pc := 13) C k dX7_shareNow_13 ?_
  cases h
  exact x_iret C hr dX7_shareNow_14
def DX7_share_19 (s0 : Int32) (σ : Sg) : Option (Int32 × Sg) :=
  some (s0, σ)
theorem tX7_share_19 {r : Int32} {σ' : Sg} (C : Cx E p s m args meth c RX7 cX7_share 3) (hr : meth.sig.returnType = (some .int)) {s0 : Int32} {σ : Sg} (h : DX7_share_19 s0 σ = some (r, σ')) : Y E p l e (rmA 7 0 0) s m args below meth c (some (.int r)) σ' 0 0 3 0 0 σ 19 [none, none, none] [.int s0] := by
  unfold DX7_share_19 at h
  cases h
  exact x_iret C hr dX7_share_19
def DX7_share (l0 : Nat) (l1 : Int32) (l2 : Int32) (σ : Sg) : Option (Int32 × Sg) :=
  chk (ckO σ 5 l0) <|
  bnd (DX7_isCoupon l0 l1 l2 σ) fun v1 σ2 =>
  if v1 = 0 then
    DX7_share_19 (-1 : Int32) σ2
  else
    chk (ckO σ2 5 l0) <|
    bnd (DX7_shareNow l0 l1 l2 σ2) fun v3 σ4 =>
    DX7_share_19 v3 σ4
theorem mX7_share (E : Ev) (l : Launch) {l0 : Nat} {l1 : Int32} {l2 : Int32} {σ : Sg} {r : Int32} {σ' : Sg} (h : DX7_share l0 l1 l2 σ = some (r, σ')) : Mt E l yX7_share cX7_share 3 (some .int) 7 0 0 [.ref (ad E l0), .int l1, .int l2] σ (some (.int r)) σ' := by
  refine Mt.ofX (by decide) (Nat.le_of_ble_eq_true rfl) (L0 := [some (.ref (ad E l0)), some (.int l1), some (.int l2)]) (xEntN_ok [.ref (ad E l0), .int l1, .int l2] 3) (fun p e s m args below meth c C hr hn => ?_)
  unfold DX7_share at h
  refine x_aload_n (pc := 0) C dX7_share_0 rfl rfl ?_
  refine x_iload_n (pc := 1) C dX7_share_1 rfl rfl ?_
  refine x_iload_n (pc := 2) C dX7_share_2 rfl rfl ?_
  obtain ⟨k, h⟩ := chk_s h
  have k2 := k
  obtain ⟨v1, σ2, k, h⟩ := bnd_s h
  refine x_callV1 (pc := 3) C (mX7_isCoupon E l k) cl5 k2 cX7_197 nX7_isCoupon sX7_isCoupon rfl rfl (Nat.le_of_ble_eq_true rfl) ⟨Nat.le_of_ble_eq_true rfl, Nat.le_of_ble_eq_true rfl, Nat.le_of_ble_eq_true rfl, Nat.le_of_ble_eq_true rfl⟩ dX7_share_3 ?_
  refine x_if_eq (pc := 6) (tgt := 18) C dX7_share_6 (by decide) (fun q => ?_) (fun q => ?_)
  · rw [if_pos q] at h
    refine x_iconst (v := -1) (pc := 18) C dX7_share_18 (by decide) ?_
    exact x_sub (tX7_share_19 C hr h) (xLe_n (xLe_n (xLe_n xLe_0)))
  · rw [if_neg q] at h
    refine x_aload_n (pc := 9) C dX7_share_9 rfl rfl ?_
    refine x_iload_n (pc := 10) C dX7_share_10 rfl rfl ?_
    refine x_iload_n (pc := 11) C dX7_share_11 rfl rfl ?_
    obtain ⟨k, h⟩ := chk_s h
    have k2 := k
    obtain ⟨v3, σ4, k, h⟩ := bnd_s h
    refine x_callV1 (pc := 12) C (mX7_shareNow E l k) cl5 k2 cX7_230 nX7_shareNow sX7_shareNow rfl rfl (Nat.le_of_ble_eq_true rfl) ⟨Nat.le_of_ble_eq_true rfl, Nat.le_of_ble_eq_true rfl, Nat.le_of_ble_eq_true rfl, Nat.le_of_ble_eq_true rfl⟩ dX7_share_12 ?_
    refine x_goto (tgt := 19) (pc := 15) C dX7_share_15 (by decide) ?_
    exact x_sub (tX7_share_19 C hr h) (xLe_n (xLe_n (xLe_n xLe_0)))
def DX7_rounds (l0 : Nat) (l1 : Int32) (σ : Sg) : Option (Int32 × Sg) :=
  chk (ckO σ 5 l0) <|
  bnd (DX7_isTicket l0 l1 σ) fun v1 σ2 =>
  if v1 = 0 then
    some ((-1 : Int32), σ2)
  else
    chk (ckO σ2 5 l0) <|
    bnd (DX7_prorateNow l0 l1 σ2) fun _ σ3 =>
    chk (ckO σ3 5 l0) <|
    chk (ckV (gR σ3 l0 6)) <|
    chk (ckO σ3 4 (gR σ3 l0 6)) <|
    some ((gI σ3 (gR σ3 l0 6) 16), σ3)
theorem mX7_rounds (E : Ev) (l : Launch) {l0 : Nat} {l1 : Int32} {σ : Sg} {r : Int32} {σ' : Sg} (h : DX7_rounds l0 l1 σ = some (r, σ')) : Mt E l yX7_rounds cX7_rounds 2 (some .int) 6 0 0 [.ref (ad E l0), .int l1] σ (some (.int r)) σ' := by
  refine Mt.ofX (by decide) (Nat.le_of_ble_eq_true rfl) (L0 := [some (.ref (ad E l0)), some (.int l1)]) (xEntN_ok [.ref (ad E l0), .int l1] 2) (fun p e s m args below meth c C hr hn => ?_)
  unfold DX7_rounds at h
  refine x_aload_n (pc := 0) C dX7_rounds_0 rfl rfl ?_
  refine x_iload_n (pc := 1) C dX7_rounds_1 rfl rfl ?_
  obtain ⟨k, h⟩ := chk_s h
  have k2 := k
  obtain ⟨v1, σ2, k, h⟩ := bnd_s h
  refine x_callV1 (pc := 2) C (mX7_isTicket E l k) cl5 k2 cX7_103 nX7_isTicket sX7_isTicket rfl rfl (Nat.le_of_ble_eq_true rfl) ⟨Nat.le_of_ble_eq_true rfl, Nat.le_of_ble_eq_true rfl, Nat.le_of_ble_eq_true rfl, Nat.le_of_ble_eq_true rfl⟩ dX7_rounds_2 ?_
  refine x_if_ne (pc := 5) (tgt := 10) C dX7_rounds_5 (by decide) (fun q => ?_) (fun q => ?_)
  · rw [if_pos q] at h
    refine x_iconst (v := -1) (pc := 8) C dX7_rounds_8 (by decide) ?_
    cases h
    exact x_iret C hr dX7_rounds_9
  · rw [if_neg q] at h
    refine x_aload_n (pc := 10) C dX7_rounds_10 rfl rfl ?_
    refine x_iload_n (pc := 11) C dX7_rounds_11 rfl rfl ?_
    obtain ⟨k, h⟩ := chk_s h
    have k2 := k
    obtain ⟨u0, σ3, k, h⟩ := bnd_s h
    refine x_callV0 (pc := 12) C (mX7_prorateNow E l k) cl5 k2 cX7_158 nX7_prorateNow sX7_prorateNow rfl rfl (Nat.le_of_ble_eq_true rfl) ⟨Nat.le_of_ble_eq_true rfl, Nat.le_of_ble_eq_true rfl, Nat.le_of_ble_eq_true rfl, Nat.le_of_ble_eq_true rfl⟩ dX7_rounds_12 ?_
    refine x_aload_n (pc := 15) C dX7_rounds_15 rfl rfl ?_
    obtain ⟨k, h⟩ := chk_s h
    have k2 := k
    obtain ⟨k, h⟩ := chk_s h
    refine x_getR (pc := 16) C fX7_48 rfl k2 k dX7_rounds_16 ?_
    obtain ⟨k, h⟩ := chk_s h
    refine x_getI (pc := 19) C fX7_233 rfl k dX7_rounds_19 ?_
    cases h
    exact x_iret C hr dX7_rounds_22
def DX7_left (l0 : Nat) (l1 : Int32) (σ : Sg) : Option (Int32 × Sg) :=
  chk (ckO σ 5 l0) <|
  bnd (DX7_isTicket l0 l1 σ) fun v1 σ2 =>
  if v1 = 0 then
    some ((-1 : Int32), σ2)
  else
    chk (ckO σ2 5 l0) <|
    bnd (DX7_prorateNow l0 l1 σ2) fun _ σ3 =>
    chk (ckO σ3 5 l0) <|
    chk (ckV (gR σ3 l0 6)) <|
    chk (ckO σ3 4 (gR σ3 l0 6)) <|
    some ((gI σ3 (gR σ3 l0 6) 17), σ3)
theorem mX7_left (E : Ev) (l : Launch) {l0 : Nat} {l1 : Int32} {σ : Sg} {r : Int32} {σ' : Sg} (h : DX7_left l0 l1 σ = some (r, σ')) : Mt E l yX7_left cX7_left 2 (some .int) 6 0 0 [.ref (ad E l0), .int l1] σ (some (.int r)) σ' := by
  refine Mt.ofX (by decide) (Nat.le_of_ble_eq_true rfl) (L0 := [some (.ref (ad E l0)), some (.int l1)]) (xEntN_ok [.ref (ad E l0), .int l1] 2) (fun p e s m args below meth c C hr hn => ?_)
  unfold DX7_left at h
  refine x_aload_n (pc := 0) C dX7_left_0 rfl rfl ?_
  refine x_iload_n (pc := 1) C dX7_left_1 rfl rfl ?_
  obtain ⟨k, h⟩ := chk_s h
  have k2 := k
  obtain ⟨v1, σ2, k, h⟩ := bnd_s h
  refine x_callV1 (pc := 2) C (mX7_isTicket E l k) cl5 k2 cX7_103 nX7_isTicket sX7_isTicket rfl rfl (Nat.le_of_ble_eq_true rfl) ⟨Nat.le_of_ble_eq_true rfl, Nat.le_of_ble_eq_true rfl, Nat.le_of_ble_eq_true rfl, Nat.le_of_ble_eq_true rfl⟩ dX7_left_2 ?_
  refine x_if_ne (pc := 5) (tgt := 10) C dX7_left_5 (by decide) (fun q => ?_) (fun q => ?_)
  · rw [if_pos q] at h
    refine x_iconst (v := -1) (pc := 8) C dX7_left_8 (by decide) ?_
    cases h
    exact x_iret C hr dX7_left_9
  · rw [if_neg q] at h
    refine x_aload_n (pc := 10) C dX7_left_10 rfl rfl ?_
    refine x_iload_n (pc := 11) C dX7_left_11 rfl rfl ?_
    obtain ⟨k, h⟩ := chk_s h
    have k2 := k
    obtain ⟨u0, σ3, k, h⟩ := bnd_s h
    refine x_callV0 (pc := 12) C (mX7_prorateNow E l k) cl5 k2 cX7_158 nX7_prorateNow sX7_prorateNow rfl rfl (Nat.le_of_ble_eq_true rfl) ⟨Nat.le_of_ble_eq_true rfl, Nat.le_of_ble_eq_true rfl, Nat.le_of_ble_eq_true rfl, Nat.le_of_ble_eq_true rfl⟩ dX7_left_12 ?_
    refine x_aload_n (pc := 15) C dX7_left_15 rfl rfl ?_
    obtain ⟨k, h⟩ := chk_s h
    have k2 := k
    obtain ⟨k, h⟩ := chk_s h
    refine x_getR (pc := 16) C fX7_48 rfl k2 k dX7_left_16 ?_
    obtain ⟨k, h⟩ := chk_s h
    refine x_getI (pc := 19) C fX7_236 rfl k dX7_left_19 ?_
    cases h
    exact x_iret C hr dX7_left_22
def DX7_straight (l0 : Nat) (l1 : Int32) (l2 : Int32) (σ : Sg) : Option (Int32 × Sg) :=
  chk (ckO σ 5 l0) <|
  bnd (DX7_isCoupon l0 l1 l2 σ) fun v1 σ2 =>
  if v1 = 0 then
    some ((-1 : Int32), σ2)
  else
    chk (ckO σ2 5 l0) <|
    bnd (DX7_prorateStraight l0 l1 σ2) fun _ σ3 =>
    chk (ckO σ3 5 l0) <|
    chk (ckV (gR σ3 l0 6)) <|
    chk (ckO σ3 4 (gR σ3 l0 6)) <|
    chk (ckV (gR σ3 (gR σ3 l0 6) 12)) <|
    chk (ckI σ3 (gR σ3 (gR σ3 l0 6) 12) l2) <|
    some ((aI σ3 (gR σ3 (gR σ3 l0 6) 12) l2.toNatClampNeg), σ3)
theorem mX7_straight (E : Ev) (l : Launch) {l0 : Nat} {l1 : Int32} {l2 : Int32} {σ : Sg} {r : Int32} {σ' : Sg} (h : DX7_straight l0 l1 l2 σ = some (r, σ')) : Mt E l yX7_straight cX7_straight 3 (some .int) 6 0 0 [.ref (ad E l0), .int l1, .int l2] σ (some (.int r)) σ' := by
  refine Mt.ofX (by decide) (Nat.le_of_ble_eq_true rfl) (L0 := [some (.ref (ad E l0)), some (.int l1), some (.int l2)]) (xEntN_ok [.ref (ad E l0), .int l1, .int l2] 3) (fun p e s m args below meth c C hr hn => ?_)
  unfold DX7_straight at h
  refine x_aload_n (pc := 0) C dX7_straight_0 rfl rfl ?_
  refine x_iload_n (pc := 1) C dX7_straight_1 rfl rfl ?_
  refine x_iload_n (pc := 2) C dX7_straight_2 rfl rfl ?_
  obtain ⟨k, h⟩ := chk_s h
  have k2 := k
  obtain ⟨v1, σ2, k, h⟩ := bnd_s h
  refine x_callV1 (pc := 3) C (mX7_isCoupon E l k) cl5 k2 cX7_197 nX7_isCoupon sX7_isCoupon rfl rfl (Nat.le_of_ble_eq_true rfl) ⟨Nat.le_of_ble_eq_true rfl, Nat.le_of_ble_eq_true rfl, Nat.le_of_ble_eq_true rfl, Nat.le_of_ble_eq_true rfl⟩ dX7_straight_3 ?_
  refine x_if_ne (pc := 6) (tgt := 11) C dX7_straight_6 (by decide) (fun q => ?_) (fun q => ?_)
  · rw [if_pos q] at h
    refine x_iconst (v := -1) (pc := 9) C dX7_straight_9 (by decide) ?_
    cases h
    exact x_iret C hr dX7_straight_10
  · rw [if_neg q] at h
    refine x_aload_n (pc := 11) C dX7_straight_11 rfl rfl ?_
    refine x_iload_n (pc := 12) C dX7_straight_12 rfl rfl ?_
    obtain ⟨k, h⟩ := chk_s h
    have k2 := k
    obtain ⟨u0, σ3, k, h⟩ := bnd_s h
    refine x_callV0 (pc := 13) C (mX7_prorateStraight E l k) cl5 k2 cX7_239 nX7_prorateStraight sX7_prorateStraight rfl rfl (Nat.le_of_ble_eq_true rfl) ⟨Nat.le_of_ble_eq_true rfl, Nat.le_of_ble_eq_true rfl, Nat.le_of_ble_eq_true rfl, Nat.le_of_ble_eq_true rfl⟩ dX7_straight_13 ?_
    refine x_aload_n (pc := 16) C dX7_straight_16 rfl rfl ?_
    obtain ⟨k, h⟩ := chk_s h
    have k2 := k
    obtain ⟨k, h⟩ := chk_s h
    refine x_getR (pc := 17) C fX7_48 rfl k2 k dX7_straight_17 ?_
    obtain ⟨k, h⟩ := chk_s h
    have k2 := k
    obtain ⟨k, h⟩ := chk_s h
    refine x_getR (pc := 20) C fX7_225 rfl k2 k dX7_straight_20 ?_
    refine x_iload_n (pc := 23) C dX7_straight_23 rfl rfl ?_
    obtain ⟨k, h⟩ := chk_s h
    refine x_iald (pc := 24) C k dX7_straight_24 ?_
    cases h
    exact x_iret C hr dX7_straight_25
def DX7_other_46 (l0 : Nat) (l2 : Int32) (s0 : Nat) (s1 : Int32) (σ : Sg) : Option (Int32 × Sg) :=
  chk (ckO σ 4 s0) <|
  wlet (pI σ s0 4 s1) fun σ1 =>
  chk (ckO σ1 5 l0) <|
  chk (ckV (gR σ1 l0 6)) <|
  chk (ckO σ1 4 (gR σ1 l0 6)) <|
  bnd (DX5_prorate (gR σ1 l0 6) σ1) fun _ σ2 =>
  chk (ckO σ2 5 l0) <|
  chk (ckV (gR σ2 l0 6)) <|
  chk (ckO σ2 4 (gR σ2 l0 6)) <|
  chk (ckV (gR σ2 (gR σ2 l0 6) 12)) <|
  chk (ckI σ2 (gR σ2 (gR σ2 l0 6) 12) l2) <|
  some ((aI σ2 (gR σ2 (gR σ2 l0 6) 12) l2.toNatClampNeg), σ2)
theorem tX7_other_46 {r : Int32} {σ' : Sg} (C : Cx E p s m args meth c RX7 cX7_other 3) (hr : meth.sig.returnType = (some .int)) {l0 : Nat} {l2 : Int32} {s0 : Nat} {s1 : Int32} {σ : Sg} (h : DX7_other_46 l0 l2 s0 s1 σ = some (r, σ')) : Y E p l e (rmA 5 0 0) s m args below meth c (some (.int r)) σ' 0 0 3 0 0 σ 46 [some (.ref (ad E l0)), none, some (.int l2)] [.int s1, .ref (ad E s0)] := by
  unfold DX7_other_46 at h
  obtain ⟨k, h⟩ := chk_s h
  obtain ⟨σ1, e1, h⟩ := wlet_s h
  refine x_putI (pc := 46) C pX7_242 rfl k dX7_other_46 (x_eq e1 ?_)
  refine x_aload_n (pc := 49) C dX7_other_49 rfl rfl ?_
  obtain ⟨k, h⟩ := chk_s h
  have k2 := k
  obtain ⟨k, h⟩ := chk_s h
  refine x_getR (pc := 50) C fX7_48 rfl k2 k dX7_other_50 ?_
  obtain ⟨k, h⟩ := chk_s h
  have k2 := k
  obtain ⟨u0, σ2, k, h⟩ := bnd_s h
  refine x_callV0 (pc := 53) C (mX5_prorate E l k) cl4 k2 cX7_216 nX5_prorate sX5_prorate rfl rfl (Nat.le_of_ble_eq_true rfl) ⟨Nat.le_of_ble_eq_true rfl, Nat.le_of_ble_eq_true rfl, Nat.le_of_ble_eq_true rfl, Nat.le_of_ble_eq_true rfl⟩ dX7_other_53 ?_
  refine x_aload_n (pc := 56) C dX7_other_56 rfl rfl ?_
  obtain ⟨k, h⟩ := chk_s h
  have k2 := k
  obtain ⟨k, h⟩ := chk_s h
  refine x_getR (pc := 57) C fX7_48 rfl k2 k dX7_other_57 ?_
  obtain ⟨k, h⟩ := chk_s h
  have k2 := k
  obtain ⟨k, h⟩ := chk_s h
  refine x_getR (pc := 60) C fX7_225 rfl k2 k dX7_other_60 ?_
  refine x_iload_n (pc := 63) C dX7_other_63 rfl rfl ?_
  obtain ⟨k, h⟩ := chk_s h
  refine x_iald (pc := 64) C k dX7_other_64 ?_
  cases h
  exact x_iret C hr dX7_other_65
def DX7_other (l0 : Nat) (l1 : Int32) (l2 : Int32) (σ : Sg) : Option (Int32 × Sg) :=
  chk (ckO σ 5 l0) <|
  bnd (DX7_isCoupon l0 l1 l2 σ) fun v1 σ2 =>
  if v1 = 0 then
    some ((-1 : Int32), σ2)
  else
    chk (ckO σ2 5 l0) <|
    chk (ckV (gR σ2 l0 6)) <|
    chk (ckO σ2 5 l0) <|
    chk (ckV (gR σ2 l0 2)) <|
    chk (ckO σ2 5 l0) <|
    chk (ckV (gR σ2 l0 5)) <|
    chk (ckO σ2 4 (gR σ2 l0 6)) <|
    bnd (DX5_take (gR σ2 l0 6) (gR σ2 l0 2) (gR σ2 l0 5) l1 σ2) fun _ σ3 =>
    chk (ckO σ3 5 l0) <|
    chk (ckV (gR σ3 l0 6)) <|
    chk (ckO σ3 5 l0) <|
    chk (ckV (gR σ3 l0 6)) <|
    chk (ckO σ3 4 (gR σ3 l0 6)) <|
    if (gI σ3 (gR σ3 l0 6) 4) = 0 then
      DX7_other_46 l0 l2 (gR σ3 l0 6) (1 : Int32) σ3
    else
      DX7_other_46 l0 l2 (gR σ3 l0 6) (0 : Int32) σ3
theorem mX7_other (E : Ev) (l : Launch) {l0 : Nat} {l1 : Int32} {l2 : Int32} {σ : Sg} {r : Int32} {σ' : Sg} (h : DX7_other l0 l1 l2 σ = some (r, σ')) : Mt E l yX7_other cX7_other 3 (some .int) 5 0 0 [.ref (ad E l0), .int l1, .int l2] σ (some (.int r)) σ' := by
  refine Mt.ofX (by decide) (Nat.le_of_ble_eq_true rfl) (L0 := [some (.ref (ad E l0)), some (.int l1), some (.int l2)]) (xEntN_ok [.ref (ad E l0), .int l1, .int l2] 3) (fun p e s m args below meth c C hr hn => ?_)
  unfold DX7_other at h
  refine x_aload_n (pc := 0) C dX7_other_0 rfl rfl ?_
  refine x_iload_n (pc := 1) C dX7_other_1 rfl rfl ?_
  refine x_iload_n (pc := 2) C dX7_other_2 rfl rfl ?_
  obtain ⟨k, h⟩ := chk_s h
  have k2 := k
  obtain ⟨v1, σ2, k, h⟩ := bnd_s h
  refine x_callV1 (pc := 3) C (mX7_isCoupon E l k) cl5 k2 cX7_197 nX7_isCoupon sX7_isCoupon rfl rfl (Nat.le_of_ble_eq_true rfl) ⟨Nat.le_of_ble_eq_true rfl, Nat.le_of_ble_eq_true rfl, Nat.le_of_ble_eq_true rfl, Nat.le_of_ble_eq_true rfl⟩ dX7_other_3 ?_
  refine x_if_ne (pc := 6) (tgt := 11) C dX7_other_6 (by decide) (fun q => ?_) (fun q => ?_)
  · rw [if_pos q] at h
    refine x_iconst (v := -1) (pc := 9) C dX7_other_9 (by decide) ?_
    cases h
    exact x_iret C hr dX7_other_10
  · rw [if_neg q] at h
    refine x_aload_n (pc := 11) C dX7_other_11 rfl rfl ?_
    obtain ⟨k, h⟩ := chk_s h
    have k2 := k
    obtain ⟨k, h⟩ := chk_s h
    refine x_getR (pc := 12) C fX7_48 rfl k2 k dX7_other_12 ?_
    refine x_aload_n (pc := 15) C dX7_other_15 rfl rfl ?_
    obtain ⟨k, h⟩ := chk_s h
    have k2 := k
    obtain ⟨k, h⟩ := chk_s h
    refine x_getR (pc := 16) C fX7_20 rfl k2 k dX7_other_16 ?_
    refine x_aload_n (pc := 19) C dX7_other_19 rfl rfl ?_
    obtain ⟨k, h⟩ := chk_s h
    have k2 := k
    obtain ⟨k, h⟩ := chk_s h
    refine x_getR (pc := 20) C fX7_39 rfl k2 k dX7_other_20 ?_
    refine x_iload_n (pc := 23) C dX7_other_23 rfl rfl ?_
    obtain ⟨k, h⟩ := chk_s h
    have k2 := k
    obtain ⟨u0, σ3, k, h⟩ := bnd_s h
    refine x_callV0 (pc := 24) C (mX5_take E l k) cl4 k2 cX7_212 nX5_take sX5_take rfl rfl (Nat.le_of_ble_eq_true rfl) ⟨Nat.le_of_ble_eq_true rfl, Nat.le_of_ble_eq_true rfl, Nat.le_of_ble_eq_true rfl, Nat.le_of_ble_eq_true rfl⟩ dX7_other_24 ?_
    refine x_aload_n (pc := 27) C dX7_other_27 rfl rfl ?_
    obtain ⟨k, h⟩ := chk_s h
    have k2 := k
    obtain ⟨k, h⟩ := chk_s h
    refine x_getR (pc := 28) C fX7_48 rfl k2 k dX7_other_28 ?_
    refine x_aload_n (pc := 31) C dX7_other_31 rfl rfl ?_
    obtain ⟨k, h⟩ := chk_s h
    have k2 := k
    obtain ⟨k, h⟩ := chk_s h
    refine x_getR (pc := 32) C fX7_48 rfl k2 k dX7_other_32 ?_
    obtain ⟨k, h⟩ := chk_s h
    refine x_getI (pc := 35) C fX7_242 rfl k dX7_other_35 ?_
    refine x_if_ne (pc := 38) (tgt := 45) C dX7_other_38 (by decide) (fun q => ?_) (fun q => ?_)
    · rw [if_pos q] at h
      refine x_iconst (v := 1) (pc := 41) C dX7_other_41 (by decide) ?_
      refine x_goto (tgt := 46) (pc := 42) C dX7_other_42 (by decide) ?_
      exact x_sub (tX7_other_46 C hr h) (xLe_s (xLe_n (xLe_s xLe_0)))
    · rw [if_neg q] at h
      refine x_iconst (v := 0) (pc := 45) C dX7_other_45 (by decide) ?_
      exact x_sub (tX7_other_46 C hr h) (xLe_s (xLe_n (xLe_s xLe_0)))
def DX7_without_17 (σ : Sg) : Option (Int32 × Sg) :=
  some ((-1 : Int32), σ)
theorem tX7_without_17 {r : Int32} {σ' : Sg} (C : Cx E p s m args meth c RX7 cX7_without 4) (hr : meth.sig.returnType = (some .int)) {σ : Sg} (h : DX7_without_17  σ = some (r, σ')) : Y E p l e (rmA 6 0 0) s m args below meth c (some (.int r)) σ' 0 0 4 0 0 σ 17 [none, none, none, none] [] := by
  unfold DX7_without_17 at h
  refine x_iconst (v := -1) (pc := 17) C dX7_without_17 (by decide) ?_
  cases h
  exact x_iret C hr dX7_without_18
def DX7_without (l0 : Nat) (l1 : Int32) (l2 : Int32) (l3 : Int32) (σ : Sg) : Option (Int32 × Sg) :=
  chk (ckO σ 5 l0) <|
  bnd (DX7_isProviso l0 l1 σ) fun v1 σ2 =>
  if v1 = 0 then
    DX7_without_17 σ2
  else
    chk (ckO σ2 5 l0) <|
    bnd (DX7_isCoupon l0 l2 l3 σ2) fun v3 σ4 =>
    if v3 = 0 then
      DX7_without_17 σ4
    else
      chk (ckO σ4 5 l0) <|
      bnd (DX7_prorateWithout l0 l1 l2 σ4) fun _ σ5 =>
      chk (ckO σ5 5 l0) <|
      chk (ckV (gR σ5 l0 6)) <|
      chk (ckO σ5 4 (gR σ5 l0 6)) <|
      chk (ckV (gR σ5 (gR σ5 l0 6) 12)) <|
      chk (ckI σ5 (gR σ5 (gR σ5 l0 6) 12) l3) <|
      some ((aI σ5 (gR σ5 (gR σ5 l0 6) 12) l3.toNatClampNeg), σ5)
theorem mX7_without (E : Ev) (l : Launch) {l0 : Nat} {l1 : Int32} {l2 : Int32} {l3 : Int32} {σ : Sg} {r : Int32} {σ' : Sg} (h : DX7_without l0 l1 l2 l3 σ = some (r, σ')) : Mt E l yX7_without cX7_without 4 (some .int) 6 0 0 [.ref (ad E l0), .int l1, .int l2, .int l3] σ (some (.int r)) σ' := by
  refine Mt.ofX (by decide) (Nat.le_of_ble_eq_true rfl) (L0 := [some (.ref (ad E l0)), some (.int l1), some (.int l2), some (.int l3)]) (xEntN_ok [.ref (ad E l0), .int l1, .int l2, .int l3] 4) (fun p e s m args below meth c C hr hn => ?_)
  unfold DX7_without at h
  refine x_aload_n (pc := 0) C dX7_without_0 rfl rfl ?_
  refine x_iload_n (pc := 1) C dX7_without_1 rfl rfl ?_
  obtain ⟨k, h⟩ := chk_s h
  have k2 := k
  obtain ⟨v1, σ2, k, h⟩ := bnd_s h
  refine x_callV1 (pc := 2) C (mX7_isProviso E l k) cl5 k2 cX7_137 nX7_isProviso sX7_isProviso rfl rfl (Nat.le_of_ble_eq_true rfl) ⟨Nat.le_of_ble_eq_true rfl, Nat.le_of_ble_eq_true rfl, Nat.le_of_ble_eq_true rfl, Nat.le_of_ble_eq_true rfl⟩ dX7_without_2 ?_
  refine x_if_eq (pc := 5) (tgt := 17) C dX7_without_5 (by decide) (fun q => ?_) (fun q => ?_)
  · rw [if_pos q] at h
    exact x_sub (tX7_without_17 C hr h) (xLe_n (xLe_n (xLe_n (xLe_n xLe_0))))
  · rw [if_neg q] at h
    refine x_aload_n (pc := 8) C dX7_without_8 rfl rfl ?_
    refine x_iload_n (pc := 9) C dX7_without_9 rfl rfl ?_
    refine x_iload_n (pc := 10) C dX7_without_10 rfl rfl ?_
    obtain ⟨k, h⟩ := chk_s h
    have k2 := k
    obtain ⟨v3, σ4, k, h⟩ := bnd_s h
    refine x_callV1 (pc := 11) C (mX7_isCoupon E l k) cl5 k2 cX7_197 nX7_isCoupon sX7_isCoupon rfl rfl (Nat.le_of_ble_eq_true rfl) ⟨Nat.le_of_ble_eq_true rfl, Nat.le_of_ble_eq_true rfl, Nat.le_of_ble_eq_true rfl, Nat.le_of_ble_eq_true rfl⟩ dX7_without_11 ?_
    refine x_if_ne (pc := 14) (tgt := 19) C dX7_without_14 (by decide) (fun q => ?_) (fun q => ?_)
    · rw [if_pos q] at h
      exact x_sub (tX7_without_17 C hr h) (xLe_n (xLe_n (xLe_n (xLe_n xLe_0))))
    · rw [if_neg q] at h
      refine x_aload_n (pc := 19) C dX7_without_19 rfl rfl ?_
      refine x_iload_n (pc := 20) C dX7_without_20 rfl rfl ?_
      refine x_iload_n (pc := 21) C dX7_without_21 rfl rfl ?_
      obtain ⟨k, h⟩ := chk_s h
      have k2 := k
      obtain ⟨u0, σ5, k, h⟩ := bnd_s h
      refine x_callV0 (pc := 22) C (mX7_prorateWithout E l k) cl5 k2 cX7_245 nX7_prorateWithout sX7_prorateWithout rfl rfl (Nat.le_of_ble_eq_true rfl) ⟨Nat.le_of_ble_eq_true rfl, Nat.le_of_ble_eq_true rfl, Nat.le_of_ble_eq_true rfl, Nat.le_of_ble_eq_true rfl⟩ dX7_without_22 ?_
      refine x_aload_n (pc := 25) C dX7_without_25 rfl rfl ?_
      obtain ⟨k, h⟩ := chk_s h
      have k2 := k
      obtain ⟨k, h⟩ := chk_s h
      refine x_getR (pc := 26) C fX7_48 rfl k2 k dX7_without_26 ?_
      obtain ⟨k, h⟩ := chk_s h
      have k2 := k
      obtain ⟨k, h⟩ := chk_s h
      refine x_getR (pc := 29) C fX7_225 rfl k2 k dX7_without_29 ?_
      refine x_iload_n (pc := 32) C dX7_without_32 rfl rfl ?_
      obtain ⟨k, h⟩ := chk_s h
      refine x_iald (pc := 33) C k dX7_without_33 ?_
      cases h
      exact x_iret C hr dX7_without_34
def DX7_keepSharesBefore_57 (σ : Sg) : Option (Unit × Sg) :=
  some ((), σ)
theorem tX7_keepSharesBefore_57 {r : Unit} {σ' : Sg} (C : Cx E p s m args meth c RX7 cX7_keepSharesBefore 3) (hr : meth.sig.returnType = none) {σ : Sg} (h : DX7_keepSharesBefore_57  σ = some (r, σ')) : Y E p l e (rmA 5 0 0) s m args below meth c none σ' 0 0 3 0 0 σ 57 [none, none, none] [] := by
  unfold DX7_keepSharesBefore_57 at h
  cases h
  exact x_vret C hr dX7_keepSharesBefore_57
def DX7_keepSharesBefore_25 : Nat → Nat → Int32 → Sg → Option (Unit × Sg)
  | 0, _, _, _ => none
  | n + 1, l0, l2, σ =>
    chk (ckO σ 5 l0) <|
    chk (ckV (gR σ l0 6)) <|
    chk (ckO σ 4 (gR σ l0 6)) <|
    if (gI σ (gR σ l0 6) 2) ≤ l2 then
      DX7_keepSharesBefore_57 σ
    else
      chk (ckO σ 5 l0) <|
      chk (ckV (gR σ l0 8)) <|
      chk (ckO σ 5 l0) <|
      chk (ckV (gR σ l0 6)) <|
      chk (ckO σ 4 (gR σ l0 6)) <|
      chk (ckV (gR σ (gR σ l0 6) 12)) <|
      chk (ckI σ (gR σ (gR σ l0 6) 12) l2) <|
      chk (ckI σ (gR σ l0 8) l2) <|
      wlet (wI σ (gR σ l0 8) l2.toNatClampNeg (aI σ (gR σ (gR σ l0 6) 12) l2.toNatClampNeg)) fun σ1 =>
      DX7_keepSharesBefore_25 n l0 (l2 + (1 : Int32)) σ1
theorem tX7_keepSharesBefore_25 {r : Unit} {σ' : Sg} (C : Cx E p s m args meth c RX7 cX7_keepSharesBefore 3) (hr : meth.sig.returnType = none) : ∀ (n : Nat) (l0 : Nat) (l2 : Int32) (σ : Sg) (h : DX7_keepSharesBefore_25 n l0 l2 σ = some (r, σ')), Y E p l e (rmA 5 0 0) s m args below meth c none σ' 0 0 3 0 0 σ 25 [some (.ref (ad E l0)), none, some (.int l2)] [] := by
  intro n
  induction n with
  | zero => intro l0 l2 σ h; cases h
  | succ n ih =>
    intro l0 l2 σ h
    unfold DX7_keepSharesBefore_25 at h
    refine x_iload_n (pc := 25) C dX7_keepSharesBefore_25 rfl rfl ?_
    refine x_aload_n (pc := 26) C dX7_keepSharesBefore_26 rfl rfl ?_
    obtain ⟨k, h⟩ := chk_s h
    have k2 := k
    obtain ⟨k, h⟩ := chk_s h
    refine x_getR (pc := 27) C fX7_48 rfl k2 k dX7_keepSharesBefore_27 ?_
    obtain ⟨k, h⟩ := chk_s h
    refine x_getI (pc := 30) C fX7_161 rfl k dX7_keepSharesBefore_30 ?_
    refine x_icmp_ge (pc := 33) (tgt := 57) C dX7_keepSharesBefore_33 (by decide) (fun q => ?_) (fun q => ?_)
    · rw [if_pos q] at h
      exact x_sub (tX7_keepSharesBefore_57 C hr h) (xLe_n (xLe_n (xLe_n xLe_0)))
    · rw [if_neg q] at h
      refine x_aload_n (pc := 36) C dX7_keepSharesBefore_36 rfl rfl ?_
      obtain ⟨k, h⟩ := chk_s h
      have k2 := k
      obtain ⟨k, h⟩ := chk_s h
      refine x_getR (pc := 37) C fX7_59 rfl k2 k dX7_keepSharesBefore_37 ?_
      refine x_iload_n (pc := 40) C dX7_keepSharesBefore_40 rfl rfl ?_
      refine x_aload_n (pc := 41) C dX7_keepSharesBefore_41 rfl rfl ?_
      obtain ⟨k, h⟩ := chk_s h
      have k2 := k
      obtain ⟨k, h⟩ := chk_s h
      refine x_getR (pc := 42) C fX7_48 rfl k2 k dX7_keepSharesBefore_42 ?_
      obtain ⟨k, h⟩ := chk_s h
      have k2 := k
      obtain ⟨k, h⟩ := chk_s h
      refine x_getR (pc := 45) C fX7_225 rfl k2 k dX7_keepSharesBefore_45 ?_
      refine x_iload_n (pc := 48) C dX7_keepSharesBefore_48 rfl rfl ?_
      obtain ⟨k, h⟩ := chk_s h
      refine x_iald (pc := 49) C k dX7_keepSharesBefore_49 ?_
      obtain ⟨k, h⟩ := chk_s h
      obtain ⟨σ1, e1, h⟩ := wlet_s h
      refine x_iast (pc := 50) C k dX7_keepSharesBefore_50 (x_eq e1 ?_)
      refine x_iinc (v := 1) (M := [some _, none, some _]) (pc := 51) C dX7_keepSharesBefore_51 rfl (by decide) (by decide) rfl ?_
      refine x_goto (tgt := 25) (pc := 54) C dX7_keepSharesBefore_54 (by decide) ?_
      exact x_sub (ih _ _ _ h) (xLe_s (xLe_n (xLe_s xLe_0)))
def DX7_keepSharesBefore (l0 : Nat) (l1 : Int32) (σ : Sg) : Option (Unit × Sg) :=
  chk (ckO σ 5 l0) <|
  chk (ckV (gR σ l0 6)) <|
  chk (ckO σ 5 l0) <|
  chk (ckV (gR σ l0 2)) <|
  chk (ckO σ 5 l0) <|
  chk (ckV (gR σ l0 5)) <|
  chk (ckO σ 4 (gR σ l0 6)) <|
  bnd (DX5_take (gR σ l0 6) (gR σ l0 2) (gR σ l0 5) l1 σ) fun _ σ1 =>
  chk (ckO σ1 5 l0) <|
  chk (ckV (gR σ1 l0 6)) <|
  chk (ckO σ1 4 (gR σ1 l0 6)) <|
  bnd (DX5_prorate (gR σ1 l0 6) σ1) fun _ σ2 =>
  DX7_keepSharesBefore_25 FU l0 (0 : Int32) σ2
theorem mX7_keepSharesBefore (E : Ev) (l : Launch) {l0 : Nat} {l1 : Int32} {σ : Sg} {r : Unit} {σ' : Sg} (h : DX7_keepSharesBefore l0 l1 σ = some (r, σ')) : Mt E l yX7_keepSharesBefore cX7_keepSharesBefore 3 none 5 0 0 [.ref (ad E l0), .int l1] σ none σ' := by
  refine Mt.ofX (by decide) (Nat.le_of_ble_eq_true rfl) (L0 := [some (.ref (ad E l0)), some (.int l1), none]) (xEntN_ok [.ref (ad E l0), .int l1] 3) (fun p e s m args below meth c C hr hn => ?_)
  unfold DX7_keepSharesBefore at h
  refine x_aload_n (pc := 0) C dX7_keepSharesBefore_0 rfl rfl ?_
  obtain ⟨k, h⟩ := chk_s h
  have k2 := k
  obtain ⟨k, h⟩ := chk_s h
  refine x_getR (pc := 1) C fX7_48 rfl k2 k dX7_keepSharesBefore_1 ?_
  refine x_aload_n (pc := 4) C dX7_keepSharesBefore_4 rfl rfl ?_
  obtain ⟨k, h⟩ := chk_s h
  have k2 := k
  obtain ⟨k, h⟩ := chk_s h
  refine x_getR (pc := 5) C fX7_20 rfl k2 k dX7_keepSharesBefore_5 ?_
  refine x_aload_n (pc := 8) C dX7_keepSharesBefore_8 rfl rfl ?_
  obtain ⟨k, h⟩ := chk_s h
  have k2 := k
  obtain ⟨k, h⟩ := chk_s h
  refine x_getR (pc := 9) C fX7_39 rfl k2 k dX7_keepSharesBefore_9 ?_
  refine x_iload_n (pc := 12) C dX7_keepSharesBefore_12 rfl rfl ?_
  obtain ⟨k, h⟩ := chk_s h
  have k2 := k
  obtain ⟨u0, σ1, k, h⟩ := bnd_s h
  refine x_callV0 (pc := 13) C (mX5_take E l k) cl4 k2 cX7_212 nX5_take sX5_take rfl rfl (Nat.le_of_ble_eq_true rfl) ⟨Nat.le_of_ble_eq_true rfl, Nat.le_of_ble_eq_true rfl, Nat.le_of_ble_eq_true rfl, Nat.le_of_ble_eq_true rfl⟩ dX7_keepSharesBefore_13 ?_
  refine x_aload_n (pc := 16) C dX7_keepSharesBefore_16 rfl rfl ?_
  obtain ⟨k, h⟩ := chk_s h
  have k2 := k
  obtain ⟨k, h⟩ := chk_s h
  refine x_getR (pc := 17) C fX7_48 rfl k2 k dX7_keepSharesBefore_17 ?_
  obtain ⟨k, h⟩ := chk_s h
  have k2 := k
  obtain ⟨u0, σ2, k, h⟩ := bnd_s h
  refine x_callV0 (pc := 20) C (mX5_prorate E l k) cl4 k2 cX7_216 nX5_prorate sX5_prorate rfl rfl (Nat.le_of_ble_eq_true rfl) ⟨Nat.le_of_ble_eq_true rfl, Nat.le_of_ble_eq_true rfl, Nat.le_of_ble_eq_true rfl, Nat.le_of_ble_eq_true rfl⟩ dX7_keepSharesBefore_20 ?_
  refine x_iconst (v := 0) (pc := 23) C dX7_keepSharesBefore_23 (by decide) ?_
  refine x_istore_n (M := [some _, some _, some _]) (pc := 24) C dX7_keepSharesBefore_24 rfl (by decide) rfl ?_
  exact x_sub (tX7_keepSharesBefore_25 C hr FU _ _ _ h) (xLe_s (xLe_n (xLe_s xLe_0)))
def DX7_sharesDiffer_31 (σ : Sg) : Option (Int32 × Sg) :=
  chk (ck01 (1 : Int32)) <|
  some ((1 : Int32), σ)
theorem tX7_sharesDiffer_31 {r : Int32} {σ' : Sg} (C : Cx E p s m args meth c RX7 cX7_sharesDiffer 2) (hr : meth.sig.returnType = (some .boolean)) {σ : Sg} (h : DX7_sharesDiffer_31  σ = some (r, σ')) : Y E p l e (rmA 1 0 0) s m args below meth c (some (.int r)) σ' 0 0 2 0 0 σ 31 [none, none] [] := by
  unfold DX7_sharesDiffer_31 at h
  refine x_iconst (v := 1) (pc := 31) C dX7_sharesDiffer_31 (by decide) ?_
  obtain ⟨kz, h⟩ := chk_s h
  cases h
  exact x_zret C hr (nar_01 kz) dX7_sharesDiffer_32
def DX7_sharesDiffer_39 (σ : Sg) : Option (Int32 × Sg) :=
  chk (ck01 (0 : Int32)) <|
  some ((0 : Int32), σ)
theorem tX7_sharesDiffer_39 {r : Int32} {σ' : Sg} (C : Cx E p s m args meth c RX7 cX7_sharesDiffer 2) (hr : meth.sig.returnType = (some .boolean)) {σ : Sg} (h : DX7_sharesDiffer_39  σ = some (r, σ')) : Y E p l e (rmA 1 0 0) s m args below meth c (some (.int r)) σ' 0 0 2 0 0 σ 39 [none, none] [] := by
  unfold DX7_sharesDiffer_39 at h
  refine x_iconst (v := 0) (pc := 39) C dX7_sharesDiffer_39 (by decide) ?_
  obtain ⟨kz, h⟩ := chk_s h
  cases h
  exact x_zret C hr (nar_01 kz) dX7_sharesDiffer_40
def DX7_sharesDiffer_2 : Nat → Nat → Int32 → Sg → Option (Int32 × Sg)
  | 0, _, _, _ => none
  | n + 1, l0, l1, σ =>
    chk (ckO σ 5 l0) <|
    chk (ckV (gR σ l0 6)) <|
    chk (ckO σ 4 (gR σ l0 6)) <|
    if (gI σ (gR σ l0 6) 2) ≤ l1 then
      DX7_sharesDiffer_39 σ
    else
      chk (ckO σ 5 l0) <|
      chk (ckV (gR σ l0 6)) <|
      chk (ckO σ 4 (gR σ l0 6)) <|
      chk (ckV (gR σ (gR σ l0 6) 12)) <|
      chk (ckI σ (gR σ (gR σ l0 6) 12) l1) <|
      chk (ckO σ 5 l0) <|
      chk (ckV (gR σ l0 8)) <|
      chk (ckI σ (gR σ l0 8) l1) <|
      if (aI σ (gR σ (gR σ l0 6) 12) l1.toNatClampNeg) = (aI σ (gR σ l0 8) l1.toNatClampNeg) then
        DX7_sharesDiffer_2 n l0 (l1 + (1 : Int32)) σ
      else
        DX7_sharesDiffer_31 σ
theorem tX7_sharesDiffer_2 {r : Int32} {σ' : Sg} (C : Cx E p s m args meth c RX7 cX7_sharesDiffer 2) (hr : meth.sig.returnType = (some .boolean)) : ∀ (n : Nat) (l0 : Nat) (l1 : Int32) (σ : Sg) (h : DX7_sharesDiffer_2 n l0 l1 σ = some (r, σ')), Y E p l e (rmA 1 0 0) s m args below meth c (some (.int r)) σ' 0 0 2 0 0 σ 2 [some (.ref (ad E l0)), some (.int l1)] [] := by
  intro n
  induction n with
  | zero => intro l0 l1 σ h; cases h
  | succ n ih =>
    intro l0 l1 σ h
    unfold DX7_sharesDiffer_2 at h
    refine x_iload_n (pc := 2) C dX7_sharesDiffer_2 rfl rfl ?_
    refine x_aload_n (pc := 3) C dX7_sharesDiffer_3 rfl rfl ?_
    obtain ⟨k, h⟩ := chk_s h
    have k2 := k
    obtain ⟨k, h⟩ := chk_s h
    refine x_getR (pc := 4) C fX7_48 rfl k2 k dX7_sharesDiffer_4 ?_
    obtain ⟨k, h⟩ := chk_s h
    refine x_getI (pc := 7) C fX7_161 rfl k dX7_sharesDiffer_7 ?_
    refine x_icmp_ge (pc := 10) (tgt := 39) C dX7_sharesDiffer_10 (by decide) (fun q => ?_) (fun q => ?_)
    · rw [if_pos q] at h
      exact x_sub (tX7_sharesDiffer_39 C hr h) (xLe_n (xLe_n xLe_0))
    · rw [if_neg q] at h
      refine x_aload_n (pc := 13) C dX7_sharesDiffer_13 rfl rfl ?_
      obtain ⟨k, h⟩ := chk_s h
      have k2 := k
      obtain ⟨k, h⟩ := chk_s h
      refine x_getR (pc := 14) C fX7_48 rfl k2 k dX7_sharesDiffer_14 ?_
      obtain ⟨k, h⟩ := chk_s h
      have k2 := k
      obtain ⟨k, h⟩ := chk_s h
      refine x_getR (pc := 17) C fX7_225 rfl k2 k dX7_sharesDiffer_17 ?_
      refine x_iload_n (pc := 20) C dX7_sharesDiffer_20 rfl rfl ?_
      obtain ⟨k, h⟩ := chk_s h
      refine x_iald (pc := 21) C k dX7_sharesDiffer_21 ?_
      refine x_aload_n (pc := 22) C dX7_sharesDiffer_22 rfl rfl ?_
      obtain ⟨k, h⟩ := chk_s h
      have k2 := k
      obtain ⟨k, h⟩ := chk_s h
      refine x_getR (pc := 23) C fX7_59 rfl k2 k dX7_sharesDiffer_23 ?_
      refine x_iload_n (pc := 26) C dX7_sharesDiffer_26 rfl rfl ?_
      obtain ⟨k, h⟩ := chk_s h
      refine x_iald (pc := 27) C k dX7_sharesDiffer_27 ?_
      refine x_icmp_eq (pc := 28) (tgt := 33) C dX7_sharesDiffer_28 (by decide) (fun q => ?_) (fun q => ?_)
      · rw [if_pos q] at h
        refine x_iinc (v := 1) (M := [some _, some _]) (pc := 33) C dX7_sharesDiffer_33 rfl (by decide) (by decide) rfl ?_
        refine x_goto (tgt := 2) (pc := 36) C dX7_sharesDiffer_36 (by decide) ?_
        exact x_sub (ih _ _ _ h) (xLe_s (xLe_s xLe_0))
      · rw [if_neg q] at h
        exact x_sub (tX7_sharesDiffer_31 C hr h) (xLe_n (xLe_n xLe_0))
def DX7_sharesDiffer (l0 : Nat) (σ : Sg) : Option (Int32 × Sg) :=
  DX7_sharesDiffer_2 FU l0 (0 : Int32) σ
theorem mX7_sharesDiffer (E : Ev) (l : Launch) {l0 : Nat} {σ : Sg} {r : Int32} {σ' : Sg} (h : DX7_sharesDiffer l0 σ = some (r, σ')) : Mt E l yX7_sharesDiffer cX7_sharesDiffer 2 (some .boolean) 1 0 0 [.ref (ad E l0)] σ (some (.int r)) σ' := by
  refine Mt.ofX (by decide) (Nat.le_of_ble_eq_true rfl) (L0 := [some (.ref (ad E l0)), none]) (xEntN_ok [.ref (ad E l0)] 2) (fun p e s m args below meth c C hr hn => ?_)
  unfold DX7_sharesDiffer at h
  refine x_iconst (v := 0) (pc := 0) C dX7_sharesDiffer_0 (by decide) ?_
  refine x_istore_n (M := [some _, some _]) (pc := 1) C dX7_sharesDiffer_1 rfl (by decide) rfl ?_
  exact x_sub (tX7_sharesDiffer_2 C hr FU _ _ _ h) (xLe_s (xLe_s xLe_0))
def DX7_matters_49 (K14 : Nat → Int32 → Int32 → Int32 → Sg → Option (Int32 × Sg)) (l0 : Nat) (l1 : Int32) (l2 : Int32) (l3 : Int32) (σ : Sg) : Option (Int32 × Sg) :=
  K14 l0 l1 l2 (l3 + (1 : Int32)) σ
theorem tX7_matters_49 {r : Int32} {σ' : Sg} (C : Cx E p s m args meth c RX7 cX7_matters 4) (hr : meth.sig.returnType = (some .int)) {K14 : Nat → Int32 → Int32 → Int32 → Sg → Option (Int32 × Sg)} (hK14 : ∀ (l0 : Nat) (l1 : Int32) (l2 : Int32) (l3 : Int32) (σ : Sg), K14 l0 l1 l2 l3 σ = some (r, σ') → Y E p l e (rmA 6 0 0) s m args below meth c (some (.int r)) σ' 0 0 4 0 0 σ 14 [some (.ref (ad E l0)), some (.int l1), some (.int l2), some (.int l3)] []) {l0 : Nat} {l1 : Int32} {l2 : Int32} {l3 : Int32} {σ : Sg} (h : DX7_matters_49 K14 l0 l1 l2 l3 σ = some (r, σ')) : Y E p l e (rmA 6 0 0) s m args below meth c (some (.int r)) σ' 0 0 4 0 0 σ 49 [some (.ref (ad E l0)), some (.int l1), some (.int l2), some (.int l3)] [] := by
  unfold DX7_matters_49 at h
  refine x_iinc (v := 1) (M := [some _, some _, some _, some _]) (pc := 49) C dX7_matters_49 rfl (by decide) (by decide) rfl ?_
  refine x_goto (tgt := 14) (pc := 52) C dX7_matters_52 (by decide) ?_
  exact x_sub (hK14 _ _ _ _ _ h) (xLe_s (xLe_s (xLe_s (xLe_s xLe_0))))
def DX7_matters_55 (l2 : Int32) (σ : Sg) : Option (Int32 × Sg) :=
  some (l2, σ)
theorem tX7_matters_55 {r : Int32} {σ' : Sg} (C : Cx E p s m args meth c RX7 cX7_matters 4) (hr : meth.sig.returnType = (some .int)) {l2 : Int32} {σ : Sg} (h : DX7_matters_55 l2 σ = some (r, σ')) : Y E p l e (rmA 6 0 0) s m args below meth c (some (.int r)) σ' 0 0 4 0 0 σ 55 [none, none, some (.int l2), none] [] := by
  unfold DX7_matters_55 at h
  refine x_iload_n (pc := 55) C dX7_matters_55 rfl rfl ?_
  cases h
  exact x_iret C hr dX7_matters_56
def DX7_matters_14 : Nat → Nat → Int32 → Int32 → Int32 → Sg → Option (Int32 × Sg)
  | 0, _, _, _, _, _ => none
  | n + 1, l0, l1, l2, l3, σ =>
    chk (ckO σ 5 l0) <|
    chk (ckV (gR σ l0 2)) <|
    chk (ckO σ 0 (gR σ l0 2)) <|
    if (gI σ (gR σ l0 2) 9) ≤ l3 then
      DX7_matters_55 l2 σ
    else
      chk (ckO σ 5 l0) <|
      bnd (DX7_keepSharesBefore l0 l3 σ) fun _ σ1 =>
      chk (ckO σ1 5 l0) <|
      bnd (DX7_prorateWithout l0 l1 l3 σ1) fun _ σ2 =>
      chk (ckO σ2 5 l0) <|
      bnd (DX7_sharesDiffer l0 σ2) fun v3 σ4 =>
      if v3 = 0 then
        DX7_matters_49 (DX7_matters_14 n) l0 l1 l2 l3 σ4
      else
        DX7_matters_49 (DX7_matters_14 n) l0 l1 (l2 ||| ((1 : Int32) <<< (l3 &&& 31))) l3 σ4
theorem tX7_matters_14 {r : Int32} {σ' : Sg} (C : Cx E p s m args meth c RX7 cX7_matters 4) (hr : meth.sig.returnType = (some .int)) : ∀ (n : Nat) (l0 : Nat) (l1 : Int32) (l2 : Int32) (l3 : Int32) (σ : Sg) (h : DX7_matters_14 n l0 l1 l2 l3 σ = some (r, σ')), Y E p l e (rmA 6 0 0) s m args below meth c (some (.int r)) σ' 0 0 4 0 0 σ 14 [some (.ref (ad E l0)), some (.int l1), some (.int l2), some (.int l3)] [] := by
  intro n
  induction n with
  | zero => intro l0 l1 l2 l3 σ h; cases h
  | succ n ih =>
    intro l0 l1 l2 l3 σ h
    unfold DX7_matters_14 at h
    refine x_iload_n (pc := 14) C dX7_matters_14 rfl rfl ?_
    refine x_aload_n (pc := 15) C dX7_matters_15 rfl rfl ?_
    obtain ⟨k, h⟩ := chk_s h
    have k2 := k
    obtain ⟨k, h⟩ := chk_s h
    refine x_getR (pc := 16) C fX7_20 rfl k2 k dX7_matters_16 ?_
    obtain ⟨k, h⟩ := chk_s h
    refine x_getI (pc := 19) C fX7_100 rfl k dX7_matters_19 ?_
    refine x_icmp_ge (pc := 22) (tgt := 55) C dX7_matters_22 (by decide) (fun q => ?_) (fun q => ?_)
    · rw [if_pos q] at h
      exact x_sub (tX7_matters_55 C hr h) (xLe_n (xLe_n (xLe_s (xLe_n xLe_0))))
    · rw [if_neg q] at h
      refine x_aload_n (pc := 25) C dX7_matters_25 rfl rfl ?_
      refine x_iload_n (pc := 26) C dX7_matters_26 rfl rfl ?_
      obtain ⟨k, h⟩ := chk_s h
      have k2 := k
      obtain ⟨u0, σ1, k, h⟩ := bnd_s h
      refine x_callV0 (pc := 27) C (mX7_keepSharesBefore E l k) cl5 k2 cX7_249 nX7_keepSharesBefore sX7_keepSharesBefore rfl rfl (Nat.le_of_ble_eq_true rfl) ⟨Nat.le_of_ble_eq_true rfl, Nat.le_of_ble_eq_true rfl, Nat.le_of_ble_eq_true rfl, Nat.le_of_ble_eq_true rfl⟩ dX7_matters_27 ?_
      refine x_aload_n (pc := 30) C dX7_matters_30 rfl rfl ?_
      refine x_iload_n (pc := 31) C dX7_matters_31 rfl rfl ?_
      refine x_iload_n (pc := 32) C dX7_matters_32 rfl rfl ?_
      obtain ⟨k, h⟩ := chk_s h
      have k2 := k
      obtain ⟨u0, σ2, k, h⟩ := bnd_s h
      refine x_callV0 (pc := 33) C (mX7_prorateWithout E l k) cl5 k2 cX7_245 nX7_prorateWithout sX7_prorateWithout rfl rfl (Nat.le_of_ble_eq_true rfl) ⟨Nat.le_of_ble_eq_true rfl, Nat.le_of_ble_eq_true rfl, Nat.le_of_ble_eq_true rfl, Nat.le_of_ble_eq_true rfl⟩ dX7_matters_33 ?_
      refine x_aload_n (pc := 36) C dX7_matters_36 rfl rfl ?_
      obtain ⟨k, h⟩ := chk_s h
      have k2 := k
      obtain ⟨v3, σ4, k, h⟩ := bnd_s h
      refine x_callV1 (pc := 37) C (mX7_sharesDiffer E l k) cl5 k2 cX7_252 nX7_sharesDiffer sX7_sharesDiffer rfl rfl (Nat.le_of_ble_eq_true rfl) ⟨Nat.le_of_ble_eq_true rfl, Nat.le_of_ble_eq_true rfl, Nat.le_of_ble_eq_true rfl, Nat.le_of_ble_eq_true rfl⟩ dX7_matters_37 ?_
      refine x_if_eq (pc := 40) (tgt := 49) C dX7_matters_40 (by decide) (fun q => ?_) (fun q => ?_)
      · rw [if_pos q] at h
        exact x_sub (tX7_matters_49 C hr ih h) (xLe_s (xLe_s (xLe_s (xLe_s xLe_0))))
      · rw [if_neg q] at h
        refine x_iload_n (pc := 43) C dX7_matters_43 rfl rfl ?_
        refine x_iconst (v := 1) (pc := 44) C dX7_matters_44 (by decide) ?_
        refine x_iload_n (pc := 45) C dX7_matters_45 rfl rfl ?_
        refine x_ishl (pc := 46) C dX7_matters_46 ?_
        refine x_ior (pc := 47) C dX7_matters_47 ?_
        refine x_istore_n (M := [some _, some _, some _, some _]) (pc := 48) C dX7_matters_48 rfl (by decide) rfl ?_
        exact x_sub (tX7_matters_49 C hr ih h) (xLe_s (xLe_s (xLe_s (xLe_s xLe_0))))
def DX7_matters (l0 : Nat) (l1 : Int32) (σ : Sg) : Option (Int32 × Sg) :=
  chk (ckO σ 5 l0) <|
  bnd (DX7_isProviso l0 l1 σ) fun v1 σ2 =>
  if v1 = 0 then
    some ((-1 : Int32), σ2)
  else
    DX7_matters_14 FU l0 l1 (0 : Int32) (0 : Int32) σ2
theorem mX7_matters (E : Ev) (l : Launch) {l0 : Nat} {l1 : Int32} {σ : Sg} {r : Int32} {σ' : Sg} (h : DX7_matters l0 l1 σ = some (r, σ')) : Mt E l yX7_matters cX7_matters 4 (some .int) 6 0 0 [.ref (ad E l0), .int l1] σ (some (.int r)) σ' := by
  refine Mt.ofX (by decide) (Nat.le_of_ble_eq_true rfl) (L0 := [some (.ref (ad E l0)), some (.int l1), none, none]) (xEntN_ok [.ref (ad E l0), .int l1] 4) (fun p e s m args below meth c C hr hn => ?_)
  unfold DX7_matters at h
  refine x_aload_n (pc := 0) C dX7_matters_0 rfl rfl ?_
  refine x_iload_n (pc := 1) C dX7_matters_1 rfl rfl ?_
  obtain ⟨k, h⟩ := chk_s h
  have k2 := k
  obtain ⟨v1, σ2, k, h⟩ := bnd_s h
  refine x_callV1 (pc := 2) C (mX7_isProviso E l k) cl5 k2 cX7_137 nX7_isProviso sX7_isProviso rfl rfl (Nat.le_of_ble_eq_true rfl) ⟨Nat.le_of_ble_eq_true rfl, Nat.le_of_ble_eq_true rfl, Nat.le_of_ble_eq_true rfl, Nat.le_of_ble_eq_true rfl⟩ dX7_matters_2 ?_
  refine x_if_ne (pc := 5) (tgt := 10) C dX7_matters_5 (by decide) (fun q => ?_) (fun q => ?_)
  · rw [if_pos q] at h
    refine x_iconst (v := -1) (pc := 8) C dX7_matters_8 (by decide) ?_
    cases h
    exact x_iret C hr dX7_matters_9
  · rw [if_neg q] at h
    refine x_iconst (v := 0) (pc := 10) C dX7_matters_10 (by decide) ?_
    refine x_istore_n (M := [some _, some _, some _, none]) (pc := 11) C dX7_matters_11 rfl (by decide) rfl ?_
    refine x_iconst (v := 0) (pc := 12) C dX7_matters_12 (by decide) ?_
    refine x_istore_n (M := [some _, some _, some _, some _]) (pc := 13) C dX7_matters_13 rfl (by decide) rfl ?_
    exact x_sub (tX7_matters_14 C hr FU _ _ _ _ _ h) (xLe_s (xLe_s (xLe_s (xLe_s xLe_0))))
def DX7_fly (l0 : Nat) (l1 : Int32) (l2 : Int32) (σ : Sg) : Option (Int32 × Sg) :=
  chk (ckO σ 5 l0) <|
  bnd (DX7_isCoupon l0 l1 l2 σ) fun v1 σ2 =>
  if v1 = 0 then
    some ((-1 : Int32), σ2)
  else
    chk (ckO σ2 5 l0) <|
    chk (ckV (gR σ2 l0 5)) <|
    chk (ckO σ2 1 (gR σ2 l0 5)) <|
    chk (ckV (gR σ2 (gR σ2 l0 5) 1)) <|
    chk (ckI σ2 (gR σ2 (gR σ2 l0 5) 1) l1) <|
    if (aI σ2 (gR σ2 (gR σ2 l0 5) 1) l1.toNatClampNeg) ≤ l2 then
      chk (ckO σ2 5 l0) <|
      chk (ckV (gR σ2 l0 5)) <|
      chk (ckO σ2 1 (gR σ2 l0 5)) <|
      chk (ckV (gR σ2 (gR σ2 l0 5) 2)) <|
      chk (ckZ σ2 (gR σ2 (gR σ2 l0 5) 2) l1) <|
      if (aI σ2 (gR σ2 (gR σ2 l0 5) 2) l1.toNatClampNeg) = 0 then
        chk (ckO σ2 5 l0) <|
        chk (ckV (gR σ2 l0 5)) <|
        chk (ckO σ2 1 (gR σ2 l0 5)) <|
        chk (ckV (gR σ2 (gR σ2 l0 5) 1)) <|
        chk (ckI σ2 (gR σ2 (gR σ2 l0 5) 1) l1) <|
        if l2 ≤ (aI σ2 (gR σ2 (gR σ2 l0 5) 1) l1.toNatClampNeg) then
          chk (ckO σ2 5 l0) <|
          bnd (DX7_shareNow l0 l1 l2 σ2) fun v3 σ4 =>
          chk (ckO σ4 5 l0) <|
          chk (ckV (gR σ4 l0 5)) <|
          chk (ckO σ4 1 (gR σ4 l0 5)) <|
          bnd (DX2_flyNext (gR σ4 l0 5) l1 v3 σ4) fun _ σ5 =>
          some (v3, σ5)
        else
          some ((-4 : Int32), σ2)
      else
        some ((-3 : Int32), σ2)
    else
      some ((-2 : Int32), σ2)
theorem mX7_fly (E : Ev) (l : Launch) {l0 : Nat} {l1 : Int32} {l2 : Int32} {σ : Sg} {r : Int32} {σ' : Sg} (h : DX7_fly l0 l1 l2 σ = some (r, σ')) : Mt E l yX7_fly cX7_fly 4 (some .int) 7 0 0 [.ref (ad E l0), .int l1, .int l2] σ (some (.int r)) σ' := by
  refine Mt.ofX (by decide) (Nat.le_of_ble_eq_true rfl) (L0 := [some (.ref (ad E l0)), some (.int l1), some (.int l2), none]) (xEntN_ok [.ref (ad E l0), .int l1, .int l2] 4) (fun p e s m args below meth c C hr hn => ?_)
  unfold DX7_fly at h
  refine x_aload_n (pc := 0) C dX7_fly_0 rfl rfl ?_
  refine x_iload_n (pc := 1) C dX7_fly_1 rfl rfl ?_
  refine x_iload_n (pc := 2) C dX7_fly_2 rfl rfl ?_
  obtain ⟨k, h⟩ := chk_s h
  have k2 := k
  obtain ⟨v1, σ2, k, h⟩ := bnd_s h
  refine x_callV1 (pc := 3) C (mX7_isCoupon E l k) cl5 k2 cX7_197 nX7_isCoupon sX7_isCoupon rfl rfl (Nat.le_of_ble_eq_true rfl) ⟨Nat.le_of_ble_eq_true rfl, Nat.le_of_ble_eq_true rfl, Nat.le_of_ble_eq_true rfl, Nat.le_of_ble_eq_true rfl⟩ dX7_fly_3 ?_
  refine x_if_ne (pc := 6) (tgt := 11) C dX7_fly_6 (by decide) (fun q => ?_) (fun q => ?_)
  · rw [if_pos q] at h
    refine x_iconst (v := -1) (pc := 9) C dX7_fly_9 (by decide) ?_
    cases h
    exact x_iret C hr dX7_fly_10
  · rw [if_neg q] at h
    refine x_iload_n (pc := 11) C dX7_fly_11 rfl rfl ?_
    refine x_aload_n (pc := 12) C dX7_fly_12 rfl rfl ?_
    obtain ⟨k, h⟩ := chk_s h
    have k2 := k
    obtain ⟨k, h⟩ := chk_s h
    refine x_getR (pc := 13) C fX7_39 rfl k2 k dX7_fly_13 ?_
    obtain ⟨k, h⟩ := chk_s h
    have k2 := k
    obtain ⟨k, h⟩ := chk_s h
    refine x_getR (pc := 16) C fX7_175 rfl k2 k dX7_fly_16 ?_
    refine x_iload_n (pc := 19) C dX7_fly_19 rfl rfl ?_
    obtain ⟨k, h⟩ := chk_s h
    refine x_iald (pc := 20) C k dX7_fly_20 ?_
    refine x_icmp_ge (pc := 21) (tgt := 27) C dX7_fly_21 (by decide) (fun q => ?_) (fun q => ?_)
    · rw [if_pos q] at h
      refine x_aload_n (pc := 27) C dX7_fly_27 rfl rfl ?_
      obtain ⟨k, h⟩ := chk_s h
      have k2 := k
      obtain ⟨k, h⟩ := chk_s h
      refine x_getR (pc := 28) C fX7_39 rfl k2 k dX7_fly_28 ?_
      obtain ⟨k, h⟩ := chk_s h
      have k2 := k
      obtain ⟨k, h⟩ := chk_s h
      refine x_getR (pc := 31) C fX7_181 rfl k2 k dX7_fly_31 ?_
      refine x_iload_n (pc := 34) C dX7_fly_34 rfl rfl ?_
      obtain ⟨k, h⟩ := chk_s h
      refine x_zald (pc := 35) C k dX7_fly_35 ?_
      refine x_if_eq (pc := 36) (tgt := 42) C dX7_fly_36 (by decide) (fun q => ?_) (fun q => ?_)
      · rw [if_pos q] at h
        refine x_iload_n (pc := 42) C dX7_fly_42 rfl rfl ?_
        refine x_aload_n (pc := 43) C dX7_fly_43 rfl rfl ?_
        obtain ⟨k, h⟩ := chk_s h
        have k2 := k
        obtain ⟨k, h⟩ := chk_s h
        refine x_getR (pc := 44) C fX7_39 rfl k2 k dX7_fly_44 ?_
        obtain ⟨k, h⟩ := chk_s h
        have k2 := k
        obtain ⟨k, h⟩ := chk_s h
        refine x_getR (pc := 47) C fX7_175 rfl k2 k dX7_fly_47 ?_
        refine x_iload_n (pc := 50) C dX7_fly_50 rfl rfl ?_
        obtain ⟨k, h⟩ := chk_s h
        refine x_iald (pc := 51) C k dX7_fly_51 ?_
        refine x_icmp_le (pc := 52) (tgt := 58) C dX7_fly_52 (by decide) (fun q => ?_) (fun q => ?_)
        · rw [if_pos q] at h
          refine x_aload_n (pc := 58) C dX7_fly_58 rfl rfl ?_
          refine x_iload_n (pc := 59) C dX7_fly_59 rfl rfl ?_
          refine x_iload_n (pc := 60) C dX7_fly_60 rfl rfl ?_
          obtain ⟨k, h⟩ := chk_s h
          have k2 := k
          obtain ⟨v3, σ4, k, h⟩ := bnd_s h
          refine x_callV1 (pc := 61) C (mX7_shareNow E l k) cl5 k2 cX7_230 nX7_shareNow sX7_shareNow rfl rfl (Nat.le_of_ble_eq_true rfl) ⟨Nat.le_of_ble_eq_true rfl, Nat.le_of_ble_eq_true rfl, Nat.le_of_ble_eq_true rfl, Nat.le_of_ble_eq_true rfl⟩ dX7_fly_61 ?_
          refine x_istore_n (M := [some _, some _, some _, some _]) (pc := 64) C dX7_fly_64 rfl (by decide) rfl ?_
          refine x_aload_n (pc := 65) C dX7_fly_65 rfl rfl ?_
          obtain ⟨k, h⟩ := chk_s h
          have k2 := k
          obtain ⟨k, h⟩ := chk_s h
          refine x_getR (pc := 66) C fX7_39 rfl k2 k dX7_fly_66 ?_
          refine x_iload_n (pc := 69) C dX7_fly_69 rfl rfl ?_
          refine x_iload_n (pc := 70) C dX7_fly_70 rfl rfl ?_
          obtain ⟨k, h⟩ := chk_s h
          have k2 := k
          obtain ⟨u0, σ5, k, h⟩ := bnd_s h
          refine x_callV0 (pc := 71) C (mX2_flyNext E l k) cl1 k2 cX7_261 nX2_flyNext sX2_flyNext rfl rfl (Nat.le_of_ble_eq_true rfl) ⟨Nat.le_of_ble_eq_true rfl, Nat.le_of_ble_eq_true rfl, Nat.le_of_ble_eq_true rfl, Nat.le_of_ble_eq_true rfl⟩ dX7_fly_71 ?_
          refine x_iload_n (pc := 74) C dX7_fly_74 rfl rfl ?_
          cases h
          exact x_iret C hr dX7_fly_75
        · rw [if_neg q] at h
          refine x_bipush (v := -4) (pc := 55) C dX7_fly_55 (by decide) ?_
          cases h
          exact x_iret C hr dX7_fly_57
      · rw [if_neg q] at h
        refine x_bipush (v := -3) (pc := 39) C dX7_fly_39 (by decide) ?_
        cases h
        exact x_iret C hr dX7_fly_41
    · rw [if_neg q] at h
      refine x_bipush (v := -2) (pc := 24) C dX7_fly_24 (by decide) ?_
      cases h
      exact x_iret C hr dX7_fly_26
def DX7_endorsingRefused_17 (σ : Sg) : Option (Int32 × Sg) :=
  some ((-1 : Int32), σ)
theorem tX7_endorsingRefused_17 {r : Int32} {σ' : Sg} (C : Cx E p s m args meth c RX7 cX7_endorsingRefused 4) (hr : meth.sig.returnType = (some .int)) {σ : Sg} (h : DX7_endorsingRefused_17  σ = some (r, σ')) : Y E p l e (rmA 3 0 0) s m args below meth c (some (.int r)) σ' 0 0 4 0 0 σ 17 [none, none, none, none] [] := by
  unfold DX7_endorsingRefused_17 at h
  refine x_iconst (v := -1) (pc := 17) C dX7_endorsingRefused_17 (by decide) ?_
  cases h
  exact x_iret C hr dX7_endorsingRefused_18
def DX7_endorsingRefused_53 (s0 : Int32) (σ : Sg) : Option (Int32 × Sg) :=
  some (s0, σ)
theorem tX7_endorsingRefused_53 {r : Int32} {σ' : Sg} (C : Cx E p s m args meth c RX7 cX7_endorsingRefused 4) (hr : meth.sig.returnType = (some .int)) {s0 : Int32} {σ : Sg} (h : DX7_endorsingRefused_53 s0 σ = some (r, σ')) : Y E p l e (rmA 3 0 0) s m args below meth c (some (.int r)) σ' 0 0 4 0 0 σ 53 [none, none, none, none] [.int s0] := by
  unfold DX7_endorsingRefused_53 at h
  cases h
  exact x_iret C hr dX7_endorsingRefused_53
def DX7_endorsingRefused (l0 : Nat) (l1 : Int32) (l2 : Int32) (l3 : Int32) (σ : Sg) : Option (Int32 × Sg) :=
  chk (ckO σ 5 l0) <|
  bnd (DX7_isCoupon l0 l1 l2 σ) fun v1 σ2 =>
  if v1 = 0 then
    DX7_endorsingRefused_17 σ2
  else
    chk (ckO σ2 5 l0) <|
    bnd (DX7_isCarrier l0 l3 σ2) fun v3 σ4 =>
    if v3 = 0 then
      DX7_endorsingRefused_17 σ4
    else
      chk (ckO σ4 5 l0) <|
      chk (ckV (gR σ4 l0 5)) <|
      chk (ckO σ4 1 (gR σ4 l0 5)) <|
      chk (ckV (gR σ4 (gR σ4 l0 5) 1)) <|
      chk (ckI σ4 (gR σ4 (gR σ4 l0 5) 1) l1) <|
      if (aI σ4 (gR σ4 (gR σ4 l0 5) 1) l1.toNatClampNeg) ≤ l2 then
        chk (ckO σ4 5 l0) <|
        chk (ckV (gR σ4 l0 5)) <|
        chk (ckO σ4 1 (gR σ4 l0 5)) <|
        chk (ckV (gR σ4 (gR σ4 l0 5) 2)) <|
        chk (ckZ σ4 (gR σ4 (gR σ4 l0 5) 2) l1) <|
        if (aI σ4 (gR σ4 (gR σ4 l0 5) 2) l1.toNatClampNeg) = 0 then
          DX7_endorsingRefused_53 (0 : Int32) σ4
        else
          DX7_endorsingRefused_53 (-3 : Int32) σ4
      else
        some ((-2 : Int32), σ4)
theorem mX7_endorsingRefused (E : Ev) (l : Launch) {l0 : Nat} {l1 : Int32} {l2 : Int32} {l3 : Int32} {σ : Sg} {r : Int32} {σ' : Sg} (h : DX7_endorsingRefused l0 l1 l2 l3 σ = some (r, σ')) : Mt E l yX7_endorsingRefused cX7_endorsingRefused 4 (some .int) 3 0 0 [.ref (ad E l0), .int l1, .int l2, .int l3] σ (some (.int r)) σ' := by
  refine Mt.ofX (by decide) (Nat.le_of_ble_eq_true rfl) (L0 := [some (.ref (ad E l0)), some (.int l1), some (.int l2), some (.int l3)]) (xEntN_ok [.ref (ad E l0), .int l1, .int l2, .int l3] 4) (fun p e s m args below meth c C hr hn => ?_)
  unfold DX7_endorsingRefused at h
  refine x_aload_n (pc := 0) C dX7_endorsingRefused_0 rfl rfl ?_
  refine x_iload_n (pc := 1) C dX7_endorsingRefused_1 rfl rfl ?_
  refine x_iload_n (pc := 2) C dX7_endorsingRefused_2 rfl rfl ?_
  obtain ⟨k, h⟩ := chk_s h
  have k2 := k
  obtain ⟨v1, σ2, k, h⟩ := bnd_s h
  refine x_callV1 (pc := 3) C (mX7_isCoupon E l k) cl5 k2 cX7_197 nX7_isCoupon sX7_isCoupon rfl rfl (Nat.le_of_ble_eq_true rfl) ⟨Nat.le_of_ble_eq_true rfl, Nat.le_of_ble_eq_true rfl, Nat.le_of_ble_eq_true rfl, Nat.le_of_ble_eq_true rfl⟩ dX7_endorsingRefused_3 ?_
  refine x_if_eq (pc := 6) (tgt := 17) C dX7_endorsingRefused_6 (by decide) (fun q => ?_) (fun q => ?_)
  · rw [if_pos q] at h
    exact x_sub (tX7_endorsingRefused_17 C hr h) (xLe_n (xLe_n (xLe_n (xLe_n xLe_0))))
  · rw [if_neg q] at h
    refine x_aload_n (pc := 9) C dX7_endorsingRefused_9 rfl rfl ?_
    refine x_iload_n (pc := 10) C dX7_endorsingRefused_10 rfl rfl ?_
    obtain ⟨k, h⟩ := chk_s h
    have k2 := k
    obtain ⟨v3, σ4, k, h⟩ := bnd_s h
    refine x_callV1 (pc := 11) C (mX7_isCarrier E l k) cl5 k2 cX7_130 nX7_isCarrier sX7_isCarrier rfl rfl (Nat.le_of_ble_eq_true rfl) ⟨Nat.le_of_ble_eq_true rfl, Nat.le_of_ble_eq_true rfl, Nat.le_of_ble_eq_true rfl, Nat.le_of_ble_eq_true rfl⟩ dX7_endorsingRefused_11 ?_
    refine x_if_ne (pc := 14) (tgt := 19) C dX7_endorsingRefused_14 (by decide) (fun q => ?_) (fun q => ?_)
    · rw [if_pos q] at h
      exact x_sub (tX7_endorsingRefused_17 C hr h) (xLe_n (xLe_n (xLe_n (xLe_n xLe_0))))
    · rw [if_neg q] at h
      refine x_iload_n (pc := 19) C dX7_endorsingRefused_19 rfl rfl ?_
      refine x_aload_n (pc := 20) C dX7_endorsingRefused_20 rfl rfl ?_
      obtain ⟨k, h⟩ := chk_s h
      have k2 := k
      obtain ⟨k, h⟩ := chk_s h
      refine x_getR (pc := 21) C fX7_39 rfl k2 k dX7_endorsingRefused_21 ?_
      obtain ⟨k, h⟩ := chk_s h
      have k2 := k
      obtain ⟨k, h⟩ := chk_s h
      refine x_getR (pc := 24) C fX7_175 rfl k2 k dX7_endorsingRefused_24 ?_
      refine x_iload_n (pc := 27) C dX7_endorsingRefused_27 rfl rfl ?_
      obtain ⟨k, h⟩ := chk_s h
      refine x_iald (pc := 28) C k dX7_endorsingRefused_28 ?_
      refine x_icmp_ge (pc := 29) (tgt := 35) C dX7_endorsingRefused_29 (by decide) (fun q => ?_) (fun q => ?_)
      · rw [if_pos q] at h
        refine x_aload_n (pc := 35) C dX7_endorsingRefused_35 rfl rfl ?_
        obtain ⟨k, h⟩ := chk_s h
        have k2 := k
        obtain ⟨k, h⟩ := chk_s h
        refine x_getR (pc := 36) C fX7_39 rfl k2 k dX7_endorsingRefused_36 ?_
        obtain ⟨k, h⟩ := chk_s h
        have k2 := k
        obtain ⟨k, h⟩ := chk_s h
        refine x_getR (pc := 39) C fX7_181 rfl k2 k dX7_endorsingRefused_39 ?_
        refine x_iload_n (pc := 42) C dX7_endorsingRefused_42 rfl rfl ?_
        obtain ⟨k, h⟩ := chk_s h
        refine x_zald (pc := 43) C k dX7_endorsingRefused_43 ?_
        refine x_if_eq (pc := 44) (tgt := 52) C dX7_endorsingRefused_44 (by decide) (fun q => ?_) (fun q => ?_)
        · rw [if_pos q] at h
          refine x_iconst (v := 0) (pc := 52) C dX7_endorsingRefused_52 (by decide) ?_
          exact x_sub (tX7_endorsingRefused_53 C hr h) (xLe_n (xLe_n (xLe_n (xLe_n xLe_0))))
        · rw [if_neg q] at h
          refine x_bipush (v := -3) (pc := 47) C dX7_endorsingRefused_47 (by decide) ?_
          refine x_goto (tgt := 53) (pc := 49) C dX7_endorsingRefused_49 (by decide) ?_
          exact x_sub (tX7_endorsingRefused_53 C hr h) (xLe_n (xLe_n (xLe_n (xLe_n xLe_0))))
      · rw [if_neg q] at h
        refine x_bipush (v := -2) (pc := 32) C dX7_endorsingRefused_32 (by decide) ?_
        cases h
        exact x_iret C hr dX7_endorsingRefused_34
def DX7_endorse (l0 : Nat) (l1 : Int32) (l2 : Int32) (l3 : Int32) (σ : Sg) : Option (Int32 × Sg) :=
  chk (ckO σ 5 l0) <|
  bnd (DX7_endorsingRefused l0 l1 l2 l3 σ) fun v1 σ2 =>
  if v1 = 0 then
    chk (ckO σ2 5 l0) <|
    chk (ckV (gR σ2 l0 5)) <|
    chk (ckO σ2 1 (gR σ2 l0 5)) <|
    chk (ckV (gR σ2 (gR σ2 l0 5) 3)) <|
    chk (ckG σ2 (gR σ2 (gR σ2 l0 5) 3) l1) <|
    chk (ckR σ2 (gR σ2 (gR σ2 l0 5) 3) l1.toNatClampNeg l2) <|
    if (aG σ2 (gR σ2 (gR σ2 l0 5) 3) l1.toNatClampNeg l2.toNatClampNeg) = l3 then
      some ((-4 : Int32), σ2)
    else
      chk (ckO σ2 5 l0) <|
      chk (ckV (gR σ2 l0 5)) <|
      chk (ckO σ2 1 (gR σ2 l0 5)) <|
      bnd (DX2_endorseTo (gR σ2 l0 5) l1 l2 l3 σ2) fun _ σ3 =>
      chk (ckO σ3 5 l0) <|
      bnd (DX7_shareNow l0 l1 l2 σ3) fun v4 σ5 =>
      some (v4, σ5)
  else
    some (v1, σ2)
theorem mX7_endorse (E : Ev) (l : Launch) {l0 : Nat} {l1 : Int32} {l2 : Int32} {l3 : Int32} {σ : Sg} {r : Int32} {σ' : Sg} (h : DX7_endorse l0 l1 l2 l3 σ = some (r, σ')) : Mt E l yX7_endorse cX7_endorse 5 (some .int) 7 0 0 [.ref (ad E l0), .int l1, .int l2, .int l3] σ (some (.int r)) σ' := by
  refine Mt.ofX (by decide) (Nat.le_of_ble_eq_true rfl) (L0 := [some (.ref (ad E l0)), some (.int l1), some (.int l2), some (.int l3), none]) (xEntN_ok [.ref (ad E l0), .int l1, .int l2, .int l3] 5) (fun p e s m args below meth c C hr hn => ?_)
  unfold DX7_endorse at h
  refine x_aload_n (pc := 0) C dX7_endorse_0 rfl rfl ?_
  refine x_iload_n (pc := 1) C dX7_endorse_1 rfl rfl ?_
  refine x_iload_n (pc := 2) C dX7_endorse_2 rfl rfl ?_
  refine x_iload_n (pc := 3) C dX7_endorse_3 rfl rfl ?_
  obtain ⟨k, h⟩ := chk_s h
  have k2 := k
  obtain ⟨v1, σ2, k, h⟩ := bnd_s h
  refine x_callV1 (pc := 4) C (mX7_endorsingRefused E l k) cl5 k2 cX7_264 nX7_endorsingRefused sX7_endorsingRefused rfl rfl (Nat.le_of_ble_eq_true rfl) ⟨Nat.le_of_ble_eq_true rfl, Nat.le_of_ble_eq_true rfl, Nat.le_of_ble_eq_true rfl, Nat.le_of_ble_eq_true rfl⟩ dX7_endorse_4 ?_
  refine x_istore (M := [some _, some _, some _, some _, some _]) (pc := 7) C dX7_endorse_7 (by decide) rfl ?_
  refine x_iload (pc := 9) C dX7_endorse_9 rfl ?_
  refine x_if_eq (pc := 11) (tgt := 17) C dX7_endorse_11 (by decide) (fun q => ?_) (fun q => ?_)
  · rw [if_pos q] at h
    refine x_aload_n (pc := 17) C dX7_endorse_17 rfl rfl ?_
    obtain ⟨k, h⟩ := chk_s h
    have k2 := k
    obtain ⟨k, h⟩ := chk_s h
    refine x_getR (pc := 18) C fX7_39 rfl k2 k dX7_endorse_18 ?_
    obtain ⟨k, h⟩ := chk_s h
    have k2 := k
    obtain ⟨k, h⟩ := chk_s h
    refine x_getR (pc := 21) C fX7_200 rfl k2 k dX7_endorse_21 ?_
    refine x_iload_n (pc := 24) C dX7_endorse_24 rfl rfl ?_
    obtain ⟨k, h⟩ := chk_s h
    refine x_gald (pc := 25) C k dX7_endorse_25 ?_
    refine x_iload_n (pc := 26) C dX7_endorse_26 rfl rfl ?_
    obtain ⟨k, h⟩ := chk_s h
    refine x_rald (pc := 27) C k dX7_endorse_27 ?_
    refine x_iload_n (pc := 28) C dX7_endorse_28 rfl rfl ?_
    refine x_icmp_ne (pc := 29) (tgt := 35) C dX7_endorse_29 (by decide) (fun q => ?_) (fun q => ?_)
    · rw [if_pos q] at h
      refine x_bipush (v := -4) (pc := 32) C dX7_endorse_32 (by decide) ?_
      cases h
      exact x_iret C hr dX7_endorse_34
    · rw [if_neg q] at h
      refine x_aload_n (pc := 35) C dX7_endorse_35 rfl rfl ?_
      obtain ⟨k, h⟩ := chk_s h
      have k2 := k
      obtain ⟨k, h⟩ := chk_s h
      refine x_getR (pc := 36) C fX7_39 rfl k2 k dX7_endorse_36 ?_
      refine x_iload_n (pc := 39) C dX7_endorse_39 rfl rfl ?_
      refine x_iload_n (pc := 40) C dX7_endorse_40 rfl rfl ?_
      refine x_iload_n (pc := 41) C dX7_endorse_41 rfl rfl ?_
      obtain ⟨k, h⟩ := chk_s h
      have k2 := k
      obtain ⟨u0, σ3, k, h⟩ := bnd_s h
      refine x_callV0 (pc := 42) C (mX2_endorseTo E l k) cl1 k2 cX7_267 nX2_endorseTo sX2_endorseTo rfl rfl (Nat.le_of_ble_eq_true rfl) ⟨Nat.le_of_ble_eq_true rfl, Nat.le_of_ble_eq_true rfl, Nat.le_of_ble_eq_true rfl, Nat.le_of_ble_eq_true rfl⟩ dX7_endorse_42 ?_
      refine x_aload_n (pc := 45) C dX7_endorse_45 rfl rfl ?_
      refine x_iload_n (pc := 46) C dX7_endorse_46 rfl rfl ?_
      refine x_iload_n (pc := 47) C dX7_endorse_47 rfl rfl ?_
      obtain ⟨k, h⟩ := chk_s h
      have k2 := k
      obtain ⟨v4, σ5, k, h⟩ := bnd_s h
      refine x_callV1 (pc := 48) C (mX7_shareNow E l k) cl5 k2 cX7_230 nX7_shareNow sX7_shareNow rfl rfl (Nat.le_of_ble_eq_true rfl) ⟨Nat.le_of_ble_eq_true rfl, Nat.le_of_ble_eq_true rfl, Nat.le_of_ble_eq_true rfl, Nat.le_of_ble_eq_true rfl⟩ dX7_endorse_48 ?_
      cases h
      exact x_iret C hr dX7_endorse_51
  · rw [if_neg q] at h
    refine x_iload (pc := 14) C dX7_endorse_14 rfl ?_
    cases h
    exact x_iret C hr dX7_endorse_16
end

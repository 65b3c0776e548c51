section
variable {E : Ev} {p : Program} {l : Launch} {e : Env} {s : State} {m : MethodId} {args : Array Value} {below : List Frame} {meth : Method} {c : Code}
def DX7_init (l0 : Nat) (σ : Sg) : Option (Unit × Sg) :=
  chk (ckW σ 2 1200 0) <|
  bnd (some (gN σ, mk1 σ)) fun a2 σ1 =>
  chk (ckO σ1 5 l0) <|
  chk (ckV a2) <|
  wlet (pR σ1 l0 0 a2) fun σ3 =>
  chk (ckO σ3 5 l0) <|
  wlet (pI σ3 l0 1 (0 : Int32)) fun σ4 =>
  chk (ckW σ4 1 0 0) <|
  bnd (some (gN σ4, mk1 σ4)) fun a6 σ5 =>
  bnd (DX1_init a6 σ5) fun _ σ7 =>
  chk (ckO σ7 5 l0) <|
  chk (ckV a6) <|
  wlet (pR σ7 l0 2 a6) fun σ8 =>
  chk (ckW σ8 1 0 0) <|
  bnd (some (gN σ8, mk1 σ8)) fun a10 σ9 =>
  bnd (DX1_init a10 σ9) fun _ σ11 =>
  chk (ckO σ11 5 l0) <|
  chk (ckV a10) <|
  wlet (pR σ11 l0 3 a10) fun σ12 =>
  chk (ckW σ12 1 2 0) <|
  bnd (some (gN σ12, mk1 σ12)) fun a14 σ13 =>
  chk (ckO σ13 5 l0) <|
  chk (ckV (gR σ13 l0 0)) <|
  chk (ckO σ13 5 l0) <|
  chk (ckV (gR σ13 l0 3)) <|
  bnd (DX3_init a14 (gR σ13 l0 0) (gR σ13 l0 3) σ13) fun _ σ15 =>
  chk (ckO σ15 5 l0) <|
  chk (ckV a14) <|
  wlet (pR σ15 l0 4 a14) fun σ16 =>
  chk (ckW σ16 1 1 0) <|
  bnd (some (gN σ16, mk1 σ16)) fun a18 σ17 =>
  bnd (DX2_init a18 σ17) fun _ σ19 =>
  chk (ckO σ19 5 l0) <|
  chk (ckV a18) <|
  wlet (pR σ19 l0 5 a18) fun σ20 =>
  chk (ckW σ20 1 4 0) <|
  bnd (some (gN σ20, mk1 σ20)) fun a22 σ21 =>
  chk (ckO σ21 5 l0) <|
  chk (ckV (gR σ21 l0 2)) <|
  bnd (DX5_init a22 (gR σ21 l0 2) σ21) fun _ σ23 =>
  chk (ckO σ23 5 l0) <|
  chk (ckV a22) <|
  wlet (pR σ23 l0 6 a22) fun σ24 =>
  chk (ckW σ24 1 3 0) <|
  bnd (some (gN σ24, mk1 σ24)) fun a26 σ25 =>
  bnd (DX4_init a26 σ25) fun _ σ27 =>
  chk (ckO σ27 5 l0) <|
  chk (ckV a26) <|
  wlet (pR σ27 l0 7 a26) fun σ28 =>
  chk (ckW σ28 2 8 0) <|
  bnd (some (gN σ28, mk1 σ28)) fun a30 σ29 =>
  chk (ckO σ29 5 l0) <|
  chk (ckV a30) <|
  wlet (pR σ29 l0 8 a30) fun σ31 =>
  chk (ckW σ31 2 6 0) <|
  bnd (some (gN σ31, mk1 σ31)) fun a33 σ32 =>
  chk (ckO σ32 5 l0) <|
  chk (ckV a33) <|
  wlet (pR σ32 l0 9 a33) fun σ34 =>
  some ((), σ34)
theorem mX7_init (E : Ev) (l : Launch) {l0 : Nat} {σ : Sg} {r : Unit} {σ' : Sg} (h : DX7_init l0 σ = some (r, σ')) : Mt E l yX7_init cX7_init 1 none 2 259 3645 [.ref (ad E l0)] σ none σ' := by
  refine Mt.ofX (by decide) (Nat.le_of_ble_eq_true rfl) (L0 := [some (.ref (ad E l0))]) (xEntN_ok [.ref (ad E l0)] 1) (fun p e s m args below meth c C hr hn => ?_)
  unfold DX7_init at h
  refine x_aload_n (pc := 0) C dX7_init_0 rfl rfl ?_
  refine x_objInit (pc := 1) C oX7_1 oi1 oi2 ⟨Nat.le_of_ble_eq_true rfl, Nat.le_of_ble_eq_true rfl⟩ dX7_init_1 ?_
  refine x_aload_n (pc := 4) C dX7_init_4 rfl rfl ?_
  refine x_sipush (v := 1200) (pc := 5) C dX7_init_5 (by decide) ?_
  obtain ⟨k, h⟩ := chk_s h
  have k2 := k
  obtain ⟨a2, σ1, e1, h⟩ := bnd_s h
  refine x_newI (N := 1200) (pc := 8) C aaI (by decide) (by decide) k2 (by decide) ⟨Nat.le_of_ble_eq_true rfl, Nat.le_of_ble_eq_true rfl⟩ dX7_init_8 (x_mkE e1 ?_)
  obtain ⟨k, h⟩ := chk_s h
  have k2 := k
  obtain ⟨k, h⟩ := chk_s h
  obtain ⟨σ3, e1, h⟩ := wlet_s h
  refine x_putQ (pc := 10) C qX7_9 hn (Or.inr ⟨_, rfl⟩) k2 k dX7_init_10 (x_eq e1 ?_)
  refine x_aload_n (pc := 13) C dX7_init_13 rfl rfl ?_
  refine x_iconst (v := 0) (pc := 14) C dX7_init_14 (by decide) ?_
  obtain ⟨k, h⟩ := chk_s h
  obtain ⟨σ4, e1, h⟩ := wlet_s h
  refine x_putI (pc := 15) C pX7_13 rfl k dX7_init_15 (x_eq e1 ?_)
  refine x_aload_n (pc := 18) C dX7_init_18 rfl rfl ?_
  obtain ⟨k, h⟩ := chk_s h
  have k2 := k
  obtain ⟨a6, σ5, e1, h⟩ := bnd_s h
  refine x_new (pc := 19) C cl0 wX7_17.1 wX7_17.2.1 wX7_17.2.2 df0 k2 ⟨Nat.le_of_ble_eq_true rfl, Nat.le_of_ble_eq_true rfl⟩ dX7_init_19 (x_mkE e1 ?_)
  refine x_dup (pc := 22) C dX7_init_22 rfl ?_
  obtain ⟨u0, σ7, k, h⟩ := bnd_s h
  refine x_callI0 (pc := 23) C (mX1_init E l k) cX7_19 rfl nX1_init rfl rfl (Nat.le_of_ble_eq_true rfl) ⟨Nat.le_of_ble_eq_true rfl, Nat.le_of_ble_eq_true rfl, Nat.le_of_ble_eq_true rfl, Nat.le_of_ble_eq_true rfl⟩ dX7_init_23 ?_
  obtain ⟨k, h⟩ := chk_s h
  have k2 := k
  obtain ⟨k, h⟩ := chk_s h
  obtain ⟨σ8, e1, h⟩ := wlet_s h
  refine x_putR (pc := 26) C pX7_20 (Or.inl ⟨_, rfl⟩) k2 k dX7_init_26 (x_eq e1 ?_)
  refine x_aload_n (pc := 29) C dX7_init_29 rfl rfl ?_
  obtain ⟨k, h⟩ := chk_s h
  have k2 := k
  obtain ⟨a10, σ9, e1, h⟩ := bnd_s h
  refine x_new (pc := 30) C cl0 wX7_17.1 wX7_17.2.1 wX7_17.2.2 df0 k2 ⟨Nat.le_of_ble_eq_true rfl, Nat.le_of_ble_eq_true rfl⟩ dX7_init_30 (x_mkE e1 ?_)
  refine x_dup (pc := 33) C dX7_init_33 rfl ?_
  obtain ⟨u0, σ11, k, h⟩ := bnd_s h
  refine x_callI0 (pc := 34) C (mX1_init E l k) cX7_19 rfl nX1_init rfl rfl (Nat.le_of_ble_eq_true rfl) ⟨Nat.le_of_ble_eq_true rfl, Nat.le_of_ble_eq_true rfl, Nat.le_of_ble_eq_true rfl, Nat.le_of_ble_eq_true rfl⟩ dX7_init_34 ?_
  obtain ⟨k, h⟩ := chk_s h
  have k2 := k
  obtain ⟨k, h⟩ := chk_s h
  obtain ⟨σ12, e1, h⟩ := wlet_s h
  refine x_putR (pc := 37) C pX7_24 (Or.inl ⟨_, rfl⟩) k2 k dX7_init_37 (x_eq e1 ?_)
  refine x_aload_n (pc := 40) C dX7_init_40 rfl rfl ?_
  obtain ⟨k, h⟩ := chk_s h
  have k2 := k
  obtain ⟨a14, σ13, e1, h⟩ := bnd_s h
  refine x_new (pc := 41) C cl2 wX7_27.1 wX7_27.2.1 wX7_27.2.2 df2 k2 ⟨Nat.le_of_ble_eq_true rfl, Nat.le_of_ble_eq_true rfl⟩ dX7_init_41 (x_mkE e1 ?_)
  refine x_dup (pc := 44) C dX7_init_44 rfl ?_
  refine x_aload_n (pc := 45) C dX7_init_45 rfl rfl ?_
  obtain ⟨k, h⟩ := chk_s h
  have k2 := k
  obtain ⟨k, h⟩ := chk_s h
  refine x_getR (pc := 46) C fX7_9 rfl k2 k dX7_init_46 ?_
  refine x_aload_n (pc := 49) C dX7_init_49 rfl rfl ?_
  obtain ⟨k, h⟩ := chk_s h
  have k2 := k
  obtain ⟨k, h⟩ := chk_s h
  refine x_getR (pc := 50) C fX7_24 rfl k2 k dX7_init_50 ?_
  obtain ⟨u0, σ15, k, h⟩ := bnd_s h
  refine x_callI0 (pc := 53) C (mX3_init E l k) cX7_29 rfl nX3_init rfl rfl (Nat.le_of_ble_eq_true rfl) ⟨Nat.le_of_ble_eq_true rfl, Nat.le_of_ble_eq_true rfl, Nat.le_of_ble_eq_true rfl, Nat.le_of_ble_eq_true rfl⟩ dX7_init_53 ?_
  obtain ⟨k, h⟩ := chk_s h
  have k2 := k
  obtain ⟨k, h⟩ := chk_s h
  obtain ⟨σ16, e1, h⟩ := wlet_s h
  refine x_putQ (pc := 56) C qX7_32 hn (Or.inl ⟨_, rfl⟩) k2 k dX7_init_56 (x_eq e1 ?_)
  refine x_aload_n (pc := 59) C dX7_init_59 rfl rfl ?_
  obtain ⟨k, h⟩ := chk_s h
  have k2 := k
  obtain ⟨a18, σ17, e1, h⟩ := bnd_s h
  refine x_new (pc := 60) C cl1 wX7_36.1 wX7_36.2.1 wX7_36.2.2 df1 k2 ⟨Nat.le_of_ble_eq_true rfl, Nat.le_of_ble_eq_true rfl⟩ dX7_init_60 (x_mkE e1 ?_)
  refine x_dup (pc := 63) C dX7_init_63 rfl ?_
  obtain ⟨u0, σ19, k, h⟩ := bnd_s h
  refine x_callI0 (pc := 64) C (mX2_init E l k) cX7_38 rfl nX2_init rfl rfl (Nat.le_of_ble_eq_true rfl) ⟨Nat.le_of_ble_eq_true rfl, Nat.le_of_ble_eq_true rfl, Nat.le_of_ble_eq_true rfl, Nat.le_of_ble_eq_true rfl⟩ dX7_init_64 ?_
  obtain ⟨k, h⟩ := chk_s h
  have k2 := k
  obtain ⟨k, h⟩ := chk_s h
  obtain ⟨σ20, e1, h⟩ := wlet_s h
  refine x_putQ (pc := 67) C qX7_39 hn (Or.inl ⟨_, rfl⟩) k2 k dX7_init_67 (x_eq e1 ?_)
  refine x_aload_n (pc := 70) C dX7_init_70 rfl rfl ?_
  obtain ⟨k, h⟩ := chk_s h
  have k2 := k
  obtain ⟨a22, σ21, e1, h⟩ := bnd_s h
  refine x_new (pc := 71) C cl4 wX7_43.1 wX7_43.2.1 wX7_43.2.2 df4 k2 ⟨Nat.le_of_ble_eq_true rfl, Nat.le_of_ble_eq_true rfl⟩ dX7_init_71 (x_mkE e1 ?_)
  refine x_dup (pc := 74) C dX7_init_74 rfl ?_
  refine x_aload_n (pc := 75) C dX7_init_75 rfl rfl ?_
  obtain ⟨k, h⟩ := chk_s h
  have k2 := k
  obtain ⟨k, h⟩ := chk_s h
  refine x_getR (pc := 76) C fX7_20 rfl k2 k dX7_init_76 ?_
  obtain ⟨u0, σ23, k, h⟩ := bnd_s h
  refine x_callI0 (pc := 79) C (mX5_init E l k) cX7_45 rfl nX5_init rfl rfl (Nat.le_of_ble_eq_true rfl) ⟨Nat.le_of_ble_eq_true rfl, Nat.le_of_ble_eq_true rfl, Nat.le_of_ble_eq_true rfl, Nat.le_of_ble_eq_true rfl⟩ dX7_init_79 ?_
  obtain ⟨k, h⟩ := chk_s h
  have k2 := k
  obtain ⟨k, h⟩ := chk_s h
  obtain ⟨σ24, e1, h⟩ := wlet_s h
  refine x_putQ (pc := 82) C qX7_48 hn (Or.inl ⟨_, rfl⟩) k2 k dX7_init_82 (x_eq e1 ?_)
  refine x_aload_n (pc := 85) C dX7_init_85 rfl rfl ?_
  obtain ⟨k, h⟩ := chk_s h
  have k2 := k
  obtain ⟨a26, σ25, e1, h⟩ := bnd_s h
  refine x_new (pc := 86) C cl3 wX7_52.1 wX7_52.2.1 wX7_52.2.2 df3 k2 ⟨Nat.le_of_ble_eq_true rfl, Nat.le_of_ble_eq_true rfl⟩ dX7_init_86 (x_mkE e1 ?_)
  refine x_dup (pc := 89) C dX7_init_89 rfl ?_
  obtain ⟨u0, σ27, k, h⟩ := bnd_s h
  refine x_callI0 (pc := 90) C (mX4_init E l k) cX7_54 rfl nX4_init rfl rfl (Nat.le_of_ble_eq_true rfl) ⟨Nat.le_of_ble_eq_true rfl, Nat.le_of_ble_eq_true rfl, Nat.le_of_ble_eq_true rfl, Nat.le_of_ble_eq_true rfl⟩ dX7_init_90 ?_
  obtain ⟨k, h⟩ := chk_s h
  have k2 := k
  obtain ⟨k, h⟩ := chk_s h
  obtain ⟨σ28, e1, h⟩ := wlet_s h
  refine x_putQ (pc := 93) C qX7_55 hn (Or.inl ⟨_, rfl⟩) k2 k dX7_init_93 (x_eq e1 ?_)
  refine x_aload_n (pc := 96) C dX7_init_96 rfl rfl ?_
  refine x_bipush (v := 8) (pc := 97) C dX7_init_97 (by decide) ?_
  obtain ⟨k, h⟩ := chk_s h
  have k2 := k
  obtain ⟨a30, σ29, e1, h⟩ := bnd_s h
  refine x_newI (N := 8) (pc := 99) C aaI (by decide) (by decide) k2 (by decide) ⟨Nat.le_of_ble_eq_true rfl, Nat.le_of_ble_eq_true rfl⟩ dX7_init_99 (x_mkE e1 ?_)
  obtain ⟨k, h⟩ := chk_s h
  have k2 := k
  obtain ⟨k, h⟩ := chk_s h
  obtain ⟨σ31, e1, h⟩ := wlet_s h
  refine x_putQ (pc := 101) C qX7_59 hn (Or.inr ⟨_, rfl⟩) k2 k dX7_init_101 (x_eq e1 ?_)
  refine x_aload_n (pc := 104) C dX7_init_104 rfl rfl ?_
  refine x_bipush (v := 6) (pc := 105) C dX7_init_105 (by decide) ?_
  obtain ⟨k, h⟩ := chk_s h
  have k2 := k
  obtain ⟨a33, σ32, e1, h⟩ := bnd_s h
  refine x_newI (N := 6) (pc := 107) C aaI (by decide) (by decide) k2 (by decide) ⟨Nat.le_of_ble_eq_true rfl, Nat.le_of_ble_eq_true rfl⟩ dX7_init_107 (x_mkE e1 ?_)
  obtain ⟨k, h⟩ := chk_s h
  have k2 := k
  obtain ⟨k, h⟩ := chk_s h
  obtain ⟨σ34, e1, h⟩ := wlet_s h
  refine x_putQ (pc := 109) C qX7_62 hn (Or.inr ⟨_, rfl⟩) k2 k dX7_init_109 (x_eq e1 ?_)
  cases h
  exact x_vret C hr dX7_init_112
def DX7_feedNumber_45 (K3 : Nat → Int32 → Int32 → Sg → Option (Unit × Sg)) (l0 : Nat) (l1 : Int32) (l2 : Int32) (σ : Sg) : Option (Unit × Sg) :=
  K3 l0 l1 (l2 + (-8 : Int32)) σ
theorem tX7_feedNumber_45 {r : Unit} {σ' : Sg} (C : Cx E p s m args meth c RX7 cX7_feedNumber 3) (hr : meth.sig.returnType = none) {K3 : Nat → Int32 → Int32 → Sg → Option (Unit × Sg)} (hK3 : ∀ (l0 : Nat) (l1 : Int32) (l2 : Int32) (σ : Sg), K3 l0 l1 l2 σ = some (r, σ') → Y E p l e (rmA 1 0 0) s m args below meth c none σ' 0 0 3 0 0 σ 3 [some (.ref (ad E l0)), some (.int l1), some (.int l2)] []) {l0 : Nat} {l1 : Int32} {l2 : Int32} {σ : Sg} (h : DX7_feedNumber_45 K3 l0 l1 l2 σ = some (r, σ')) : Y E p l e (rmA 1 0 0) s m args below meth c none σ' 0 0 3 0 0 σ 45 [some (.ref (ad E l0)), some (.int l1), some (.int l2)] [] := by
  unfold DX7_feedNumber_45 at h
  refine x_iinc (v := -8) (M := [some _, some _, some _]) (pc := 45) C dX7_feedNumber_45 rfl (by decide) (by decide) rfl ?_
  refine x_goto (tgt := 3) (pc := 48) C dX7_feedNumber_48 (by decide) ?_
  exact x_sub (hK3 _ _ _ _ h) (xLe_s (xLe_s (xLe_s xLe_0)))
def DX7_feedNumber_51 (σ : Sg) : Option (Unit × Sg) :=
  some ((), σ)
theorem tX7_feedNumber_51 {r : Unit} {σ' : Sg} (C : Cx E p s m args meth c RX7 cX7_feedNumber 3) (hr : meth.sig.returnType = none) {σ : Sg} (h : DX7_feedNumber_51  σ = some (r, σ')) : Y E p l e (rmA 1 0 0) s m args below meth c none σ' 0 0 3 0 0 σ 51 [none, none, none] [] := by
  unfold DX7_feedNumber_51 at h
  cases h
  exact x_vret C hr dX7_feedNumber_51
def DX7_feedNumber_3 : Nat → Nat → Int32 → Int32 → Sg → Option (Unit × Sg)
  | 0, _, _, _, _ => none
  | n + 1, l0, l1, l2, σ =>
    if l2 < 0 then
      DX7_feedNumber_51 σ
    else
      chk (ckO σ 5 l0) <|
      chk (ckO σ 5 l0) <|
      chk (ckV (gR σ l0 0)) <|
      chk (ckL σ (gR σ l0 0)) <|
      if (nI (shp (gR σ l0 0)).2.1) ≤ (gI σ l0 1) then
        DX7_feedNumber_45 (DX7_feedNumber_3 n) l0 l1 l2 σ
      else
        chk (ckO σ 5 l0) <|
        chk (ckV (gR σ l0 0)) <|
        chk (ckO σ 5 l0) <|
        chk (ckI σ (gR σ l0 0) (gI σ l0 1)) <|
        wlet (wI σ (gR σ l0 0) (gI σ l0 1).toNatClampNeg ((l1 >>> (l2 &&& 31)) &&& (255 : Int32))) fun σ1 =>
        chk (ckO σ1 5 l0) <|
        chk (ckO σ1 5 l0) <|
        wlet (pI σ1 l0 1 ((gI σ1 l0 1) + (1 : Int32))) fun σ2 =>
        DX7_feedNumber_45 (DX7_feedNumber_3 n) l0 l1 l2 σ2
theorem tX7_feedNumber_3 {r : Unit} {σ' : Sg} (C : Cx E p s m args meth c RX7 cX7_feedNumber 3) (hr : meth.sig.returnType = none) : ∀ (n : Nat) (l0 : Nat) (l1 : Int32) (l2 : Int32) (σ : Sg) (h : DX7_feedNumber_3 n l0 l1 l2 σ = some (r, σ')), Y E p l e (rmA 1 0 0) s m args below meth c none σ' 0 0 3 0 0 σ 3 [some (.ref (ad E l0)), some (.int l1), some (.int l2)] [] := by
  intro n
  induction n with
  | zero => intro l0 l1 l2 σ h; cases h
  | succ n ih =>
    intro l0 l1 l2 σ h
    unfold DX7_feedNumber_3 at h
    refine x_iload_n (pc := 3) C dX7_feedNumber_3 rfl rfl ?_
    refine x_if_lt (pc := 4) (tgt := 51) C dX7_feedNumber_4 (by decide) (fun q => ?_) (fun q => ?_)
    · rw [if_pos q] at h
      exact x_sub (tX7_feedNumber_51 C hr h) (xLe_n (xLe_n (xLe_n xLe_0)))
    · rw [if_neg q] at h
      refine x_aload_n (pc := 7) C dX7_feedNumber_7 rfl rfl ?_
      obtain ⟨k, h⟩ := chk_s h
      refine x_getI (pc := 8) C fX7_13 rfl k dX7_feedNumber_8 ?_
      refine x_aload_n (pc := 11) C dX7_feedNumber_11 rfl rfl ?_
      obtain ⟨k, h⟩ := chk_s h
      have k2 := k
      obtain ⟨k, h⟩ := chk_s h
      refine x_getR (pc := 12) C fX7_9 rfl k2 k dX7_feedNumber_12 ?_
      obtain ⟨k, h⟩ := chk_s h
      refine x_alen (pc := 15) C k dX7_feedNumber_15 ?_
      refine x_icmp_ge (pc := 16) (tgt := 45) C dX7_feedNumber_16 (by decide) (fun q => ?_) (fun q => ?_)
      · rw [if_pos q] at h
        exact x_sub (tX7_feedNumber_45 C hr ih h) (xLe_s (xLe_s (xLe_s xLe_0)))
      · rw [if_neg q] at h
        refine x_aload_n (pc := 19) C dX7_feedNumber_19 rfl rfl ?_
        obtain ⟨k, h⟩ := chk_s h
        have k2 := k
        obtain ⟨k, h⟩ := chk_s h
        refine x_getR (pc := 20) C fX7_9 rfl k2 k dX7_feedNumber_20 ?_
        refine x_aload_n (pc := 23) C dX7_feedNumber_23 rfl rfl ?_
        obtain ⟨k, h⟩ := chk_s h
        refine x_getI (pc := 24) C fX7_13 rfl k dX7_feedNumber_24 ?_
        refine x_iload_n (pc := 27) C dX7_feedNumber_27 rfl rfl ?_
        refine x_iload_n (pc := 28) C dX7_feedNumber_28 rfl rfl ?_
        refine x_ishr (pc := 29) C dX7_feedNumber_29 ?_
        refine x_sipush (v := 255) (pc := 30) C dX7_feedNumber_30 (by decide) ?_
        refine x_iand (pc := 33) C dX7_feedNumber_33 ?_
        obtain ⟨k, h⟩ := chk_s h
        obtain ⟨σ1, e1, h⟩ := wlet_s h
        refine x_iast (pc := 34) C k dX7_feedNumber_34 (x_eq e1 ?_)
        refine x_aload_n (pc := 35) C dX7_feedNumber_35 rfl rfl ?_
        refine x_dup (pc := 36) C dX7_feedNumber_36 rfl ?_
        obtain ⟨k, h⟩ := chk_s h
        refine x_getI (pc := 37) C fX7_13 rfl k dX7_feedNumber_37 ?_
        refine x_iconst (v := 1) (pc := 40) C dX7_feedNumber_40 (by decide) ?_
        refine x_iadd (pc := 41) C dX7_feedNumber_41 ?_
        obtain ⟨k, h⟩ := chk_s h
        obtain ⟨σ2, e1, h⟩ := wlet_s h
        refine x_putI (pc := 42) C pX7_13 rfl k dX7_feedNumber_42 (x_eq e1 ?_)
        exact x_sub (tX7_feedNumber_45 C hr ih h) (xLe_s (xLe_s (xLe_s xLe_0)))
def DX7_feedNumber (l0 : Nat) (l1 : Int32) (σ : Sg) : Option (Unit × Sg) :=
  DX7_feedNumber_3 FU l0 l1 (24 : Int32) σ
theorem mX7_feedNumber (E : Ev) (l : Launch) {l0 : Nat} {l1 : Int32} {σ : Sg} {r : Unit} {σ' : Sg} (h : DX7_feedNumber l0 l1 σ = some (r, σ')) : Mt E l yX7_feedNumber cX7_feedNumber 3 none 1 0 0 [.ref (ad E l0), .int l1] σ none σ' := by
  refine Mt.ofX (by decide) (Nat.le_of_ble_eq_true rfl) (L0 := [some (.ref (ad E l0)), some (.int l1), none]) (xEntN_ok [.ref (ad E l0), .int l1] 3) (fun p e s m args below meth c C hr hn => ?_)
  unfold DX7_feedNumber at h
  refine x_bipush (v := 24) (pc := 0) C dX7_feedNumber_0 (by decide) ?_
  refine x_istore_n (M := [some _, some _, some _]) (pc := 2) C dX7_feedNumber_2 rfl (by decide) rfl ?_
  exact x_sub (tX7_feedNumber_3 C hr FU _ _ _ _ h) (xLe_s (xLe_s (xLe_s xLe_0)))
def DX7_feed (l0 : Nat) (l1 : Int32) (l2 : Int32) (l3 : Int32) (l4 : Int32) (l5 : Int32) (σ : Sg) : Option (Int32 × Sg) :=
  chk (ckO σ 5 l0) <|
  if ((gI σ l0 1) + (20 : Int32)) ≤ (1200 : Int32) then
    chk (ckO σ 5 l0) <|
    bnd (DX7_feedNumber l0 l1 σ) fun _ σ1 =>
    chk (ckO σ1 5 l0) <|
    bnd (DX7_feedNumber l0 l2 σ1) fun _ σ2 =>
    chk (ckO σ2 5 l0) <|
    bnd (DX7_feedNumber l0 l3 σ2) fun _ σ3 =>
    chk (ckO σ3 5 l0) <|
    bnd (DX7_feedNumber l0 l4 σ3) fun _ σ4 =>
    chk (ckO σ4 5 l0) <|
    bnd (DX7_feedNumber l0 l5 σ4) fun _ σ5 =>
    chk (ckO σ5 5 l0) <|
    some ((gI σ5 l0 1), σ5)
  else
    some ((-1 : Int32), σ)
theorem mX7_feed (E : Ev) (l : Launch) {l0 : Nat} {l1 : Int32} {l2 : Int32} {l3 : Int32} {l4 : Int32} {l5 : Int32} {σ : Sg} {r : Int32} {σ' : Sg} (h : DX7_feed l0 l1 l2 l3 l4 l5 σ = some (r, σ')) : Mt E l yX7_feed cX7_feed 6 (some .int) 2 0 0 [.ref (ad E l0), .int l1, .int l2, .int l3, .int l4, .int l5] σ (some (.int r)) σ' := by
  refine Mt.ofX (by decide) (Nat.le_of_ble_eq_true rfl) (L0 := [some (.ref (ad E l0)), some (.int l1), some (.int l2), some (.int l3), some (.int l4), some (.int l5)]) (xEntN_ok [.ref (ad E l0), .int l1, .int l2, .int l3, .int l4, .int l5] 6) (fun p e s m args below meth c C hr hn => ?_)
  unfold DX7_feed at h
  refine x_aload_n (pc := 0) C dX7_feed_0 rfl rfl ?_
  obtain ⟨k, h⟩ := chk_s h
  refine x_getI (pc := 1) C fX7_13 rfl k dX7_feed_1 ?_
  refine x_bipush (v := 20) (pc := 4) C dX7_feed_4 (by decide) ?_
  refine x_iadd (pc := 6) C dX7_feed_6 ?_
  refine x_sipush (v := 1200) (pc := 7) C dX7_feed_7 (by decide) ?_
  refine x_icmp_le (pc := 10) (tgt := 15) C dX7_feed_10 (by decide) (fun q => ?_) (fun q => ?_)
  · rw [if_pos q] at h
    refine x_aload_n (pc := 15) C dX7_feed_15 rfl rfl ?_
    refine x_iload_n (pc := 16) C dX7_feed_16 rfl rfl ?_
    obtain ⟨k, h⟩ := chk_s h
    have k2 := k
    obtain ⟨u0, σ1, k, h⟩ := bnd_s h
    refine x_callV0 (pc := 17) C (mX7_feedNumber E l k) cl5 k2 cX7_65 nX7_feedNumber sX7_feedNumber rfl rfl (Nat.le_of_ble_eq_true rfl) ⟨Nat.le_of_ble_eq_true rfl, Nat.le_of_ble_eq_true rfl, Nat.le_of_ble_eq_true rfl, Nat.le_of_ble_eq_true rfl⟩ dX7_feed_17 ?_
    refine x_aload_n (pc := 20) C dX7_feed_20 rfl rfl ?_
    refine x_iload_n (pc := 21) C dX7_feed_21 rfl rfl ?_
    obtain ⟨k, h⟩ := chk_s h
    have k2 := k
    obtain ⟨u0, σ2, k, h⟩ := bnd_s h
    refine x_callV0 (pc := 22) C (mX7_feedNumber E l k) cl5 k2 cX7_65 nX7_feedNumber sX7_feedNumber rfl rfl (Nat.le_of_ble_eq_true rfl) ⟨Nat.le_of_ble_eq_true rfl, Nat.le_of_ble_eq_true rfl, Nat.le_of_ble_eq_true rfl, Nat.le_of_ble_eq_true rfl⟩ dX7_feed_22 ?_
    refine x_aload_n (pc := 25) C dX7_feed_25 rfl rfl ?_
    refine x_iload_n (pc := 26) C dX7_feed_26 rfl rfl ?_
    obtain ⟨k, h⟩ := chk_s h
    have k2 := k
    obtain ⟨u0, σ3, k, h⟩ := bnd_s h
    refine x_callV0 (pc := 27) C (mX7_feedNumber E l k) cl5 k2 cX7_65 nX7_feedNumber sX7_feedNumber rfl rfl (Nat.le_of_ble_eq_true rfl) ⟨Nat.le_of_ble_eq_true rfl, Nat.le_of_ble_eq_true rfl, Nat.le_of_ble_eq_true rfl, Nat.le_of_ble_eq_true rfl⟩ dX7_feed_27 ?_
    refine x_aload_n (pc := 30) C dX7_feed_30 rfl rfl ?_
    refine x_iload (pc := 31) C dX7_feed_31 rfl ?_
    obtain ⟨k, h⟩ := chk_s h
    have k2 := k
    obtain ⟨u0, σ4, k, h⟩ := bnd_s h
    refine x_callV0 (pc := 33) C (mX7_feedNumber E l k) cl5 k2 cX7_65 nX7_feedNumber sX7_feedNumber rfl rfl (Nat.le_of_ble_eq_true rfl) ⟨Nat.le_of_ble_eq_true rfl, Nat.le_of_ble_eq_true rfl, Nat.le_of_ble_eq_true rfl, Nat.le_of_ble_eq_true rfl⟩ dX7_feed_33 ?_
    refine x_aload_n (pc := 36) C dX7_feed_36 rfl rfl ?_
    refine x_iload (pc := 37) C dX7_feed_37 rfl ?_
    obtain ⟨k, h⟩ := chk_s h
    have k2 := k
    obtain ⟨u0, σ5, k, h⟩ := bnd_s h
    refine x_callV0 (pc := 39) C (mX7_feedNumber E l k) cl5 k2 cX7_65 nX7_feedNumber sX7_feedNumber rfl rfl (Nat.le_of_ble_eq_true rfl) ⟨Nat.le_of_ble_eq_true rfl, Nat.le_of_ble_eq_true rfl, Nat.le_of_ble_eq_true rfl, Nat.le_of_ble_eq_true rfl⟩ dX7_feed_39 ?_
    refine x_aload_n (pc := 42) C dX7_feed_42 rfl rfl ?_
    obtain ⟨k, h⟩ := chk_s h
    refine x_getI (pc := 43) C fX7_13 rfl k dX7_feed_43 ?_
    cases h
    exact x_iret C hr dX7_feed_46
  · rw [if_neg q] at h
    refine x_iconst (v := -1) (pc := 13) C dX7_feed_13 (by decide) ?_
    cases h
    exact x_iret C hr dX7_feed_14
def DX7_text_12 (σ : Sg) : Option (Int32 × Sg) :=
  some ((-2 : Int32), σ)
theorem tX7_text_12 {r : Int32} {σ' : Sg} (C : Cx E p s m args meth c RX7 cX7_text 3) (hr : meth.sig.returnType = (some .int)) {σ : Sg} (h : DX7_text_12  σ = some (r, σ')) : Y E p l e (rmA 7 0 0) s m args below meth c (some (.int r)) σ' 0 0 3 0 0 σ 12 [none, none, none] [] := by
  unfold DX7_text_12 at h
  refine x_bipush (v := -2) (pc := 12) C dX7_text_12 (by decide) ?_
  cases h
  exact x_iret C hr dX7_text_14
def DX7_text_59 (σ : Sg) : Option (Int32 × Sg) :=
  some ((-1 : Int32), σ)
theorem tX7_text_59 {r : Int32} {σ' : Sg} (C : Cx E p s m args meth c RX7 cX7_text 3) (hr : meth.sig.returnType = (some .int)) {σ : Sg} (h : DX7_text_59  σ = some (r, σ')) : Y E p l e (rmA 7 0 0) s m args below meth c (some (.int r)) σ' 0 0 3 0 0 σ 59 [none, none, none] [] := by
  unfold DX7_text_59 at h
  refine x_iconst (v := -1) (pc := 59) C dX7_text_59 (by decide) ?_
  cases h
  exact x_iret C hr dX7_text_60
def DX7_text_67 (l0 : Nat) (σ : Sg) : Option (Int32 × Sg) :=
  chk (ckO σ 5 l0) <|
  chk (ckV (gR σ l0 2)) <|
  chk (ckO σ 5 l0) <|
  chk (ckV (gR σ l0 3)) <|
  chk (ckO σ 5 l0) <|
  chk (ckV (gR σ l0 3)) <|
  wlet (pR σ l0 2 (gR σ l0 3)) fun σ1 =>
  chk (ckO σ1 5 l0) <|
  chk (ckV (gR σ l0 2)) <|
  wlet (pR σ1 l0 3 (gR σ l0 2)) fun σ2 =>
  chk (ckO σ2 5 l0) <|
  chk (ckV (gR σ2 l0 5)) <|
  chk (ckO σ2 5 l0) <|
  chk (ckV (gR σ2 l0 2)) <|
  chk (ckO σ2 1 (gR σ2 l0 5)) <|
  bnd (DX2_open (gR σ2 l0 5) (gR σ2 l0 2) σ2) fun _ σ3 =>
  chk (ckO σ3 5 l0) <|
  chk (ckV (gR σ3 l0 2)) <|
  chk (ckO σ3 0 (gR σ3 l0 2)) <|
  some ((gI σ3 (gR σ3 l0 2) 0), σ3)
theorem tX7_text_67 {r : Int32} {σ' : Sg} (C : Cx E p s m args meth c RX7 cX7_text 3) (hr : meth.sig.returnType = (some .int)) {l0 : Nat} {σ : Sg} (h : DX7_text_67 l0 σ = some (r, σ')) : Y E p l e (rmA 7 0 0) s m args below meth c (some (.int r)) σ' 0 0 3 0 0 σ 67 [some (.ref (ad E l0)), none, none] [] := by
  unfold DX7_text_67 at h
  refine x_aload_n (pc := 67) C dX7_text_67 rfl rfl ?_
  obtain ⟨k, h⟩ := chk_s h
  have k2 := k
  obtain ⟨k, h⟩ := chk_s h
  refine x_getR (pc := 68) C fX7_20 rfl k2 k dX7_text_68 ?_
  refine x_astore_n (M := [some _, none, some _]) (pc := 71) C dX7_text_71 rfl (by decide) rfl ?_
  refine x_aload_n (pc := 72) C dX7_text_72 rfl rfl ?_
  refine x_aload_n (pc := 73) C dX7_text_73 rfl rfl ?_
  obtain ⟨k, h⟩ := chk_s h
  have k2 := k
  obtain ⟨k, h⟩ := chk_s h
  refine x_getR (pc := 74) C fX7_24 rfl k2 k dX7_text_74 ?_
  obtain ⟨k, h⟩ := chk_s h
  have k2 := k
  obtain ⟨k, h⟩ := chk_s h
  obtain ⟨σ1, e1, h⟩ := wlet_s h
  refine x_putR (pc := 77) C pX7_20 (Or.inl ⟨_, rfl⟩) k2 k dX7_text_77 (x_eq e1 ?_)
  refine x_aload_n (pc := 80) C dX7_text_80 rfl rfl ?_
  refine x_aload_n (pc := 81) C dX7_text_81 rfl rfl ?_
  obtain ⟨k, h⟩ := chk_s h
  have k2 := k
  obtain ⟨k, h⟩ := chk_s h
  obtain ⟨σ2, e1, h⟩ := wlet_s h
  refine x_putR (pc := 82) C pX7_24 (Or.inl ⟨_, rfl⟩) k2 k dX7_text_82 (x_eq e1 ?_)
  refine x_aload_n (pc := 85) C dX7_text_85 rfl rfl ?_
  obtain ⟨k, h⟩ := chk_s h
  have k2 := k
  obtain ⟨k, h⟩ := chk_s h
  refine x_getR (pc := 86) C fX7_39 rfl k2 k dX7_text_86 ?_
  refine x_aload_n (pc := 89) C dX7_text_89 rfl rfl ?_
  obtain ⟨k, h⟩ := chk_s h
  have k2 := k
  obtain ⟨k, h⟩ := chk_s h
  refine x_getR (pc := 90) C fX7_20 rfl k2 k dX7_text_90 ?_
  obtain ⟨k, h⟩ := chk_s h
  have k2 := k
  obtain ⟨u0, σ3, k, h⟩ := bnd_s h
  refine x_callV0 (pc := 93) C (mX2_open E l k) cl1 k2 cX7_80 nX2_open sX2_open rfl rfl (Nat.le_of_ble_eq_true rfl) ⟨Nat.le_of_ble_eq_true rfl, Nat.le_of_ble_eq_true rfl, Nat.le_of_ble_eq_true rfl, Nat.le_of_ble_eq_true rfl⟩ dX7_text_93 ?_
  refine x_aload_n (pc := 96) C dX7_text_96 rfl rfl ?_
  obtain ⟨k, h⟩ := chk_s h
  have k2 := k
  obtain ⟨k, h⟩ := chk_s h
  refine x_getR (pc := 97) C fX7_20 rfl k2 k dX7_text_97 ?_
  obtain ⟨k, h⟩ := chk_s h
  refine x_getI (pc := 100) C fX7_82 rfl k dX7_text_100 ?_
  cases h
  exact x_iret C hr dX7_text_103
def DX7_text_34 : Nat → Nat → Int32 → Int32 → Sg → Option (Int32 × Sg)
  | 0, _, _, _, _ => none
  | n + 1, l0, l1, l2, σ =>
    if l1 ≤ l2 then
      DX7_text_67 l0 σ
    else
      chk (ckO σ 5 l0) <|
      chk (ckV (gR σ l0 4)) <|
      chk (ckO σ 2 (gR σ l0 4)) <|
      bnd (DX3_hasLine (gR σ l0 4) σ) fun v1 σ2 =>
      if v1 = 0 then
        DX7_text_67 l0 σ2
      else
        chk (ckO σ2 5 l0) <|
        chk (ckV (gR σ2 l0 4)) <|
        chk (ckO σ2 2 (gR σ2 l0 4)) <|
        bnd (DX3_readLine (gR σ2 l0 4) σ2) fun v3 σ4 =>
        if v3 = 0 then
          DX7_text_59 σ4
        else
          DX7_text_34 n l0 l1 (l2 + (1 : Int32)) σ4
theorem tX7_text_34 {r : Int32} {σ' : Sg} (C : Cx E p s m args meth c RX7 cX7_text 3) (hr : meth.sig.returnType = (some .int)) : ∀ (n : Nat) (l0 : Nat) (l1 : Int32) (l2 : Int32) (σ : Sg) (h : DX7_text_34 n l0 l1 l2 σ = some (r, σ')), Y E p l e (rmA 7 0 0) s m args below meth c (some (.int r)) σ' 0 0 3 0 0 σ 34 [some (.ref (ad E l0)), some (.int l1), some (.int l2)] [] := by
  intro n
  induction n with
  | zero => intro l0 l1 l2 σ h; cases h
  | succ n ih =>
    intro l0 l1 l2 σ h
    unfold DX7_text_34 at h
    refine x_iload_n (pc := 34) C dX7_text_34 rfl rfl ?_
    refine x_iload_n (pc := 35) C dX7_text_35 rfl rfl ?_
    refine x_icmp_ge (pc := 36) (tgt := 67) C dX7_text_36 (by decide) (fun q => ?_) (fun q => ?_)
    · rw [if_pos q] at h
      exact x_sub (tX7_text_67 C hr h) (xLe_s (xLe_n (xLe_n xLe_0)))
    · rw [if_neg q] at h
      refine x_aload_n (pc := 39) C dX7_text_39 rfl rfl ?_
      obtain ⟨k, h⟩ := chk_s h
      have k2 := k
      obtain ⟨k, h⟩ := chk_s h
      refine x_getR (pc := 40) C fX7_32 rfl k2 k dX7_text_40 ?_
      obtain ⟨k, h⟩ := chk_s h
      have k2 := k
      obtain ⟨v1, σ2, k, h⟩ := bnd_s h
      refine x_callV1 (pc := 43) C (mX3_hasLine E l k) cl2 k2 cX7_73 nX3_hasLine sX3_hasLine rfl rfl (Nat.le_of_ble_eq_true rfl) ⟨Nat.le_of_ble_eq_true rfl, Nat.le_of_ble_eq_true rfl, Nat.le_of_ble_eq_true rfl, Nat.le_of_ble_eq_true rfl⟩ dX7_text_43 ?_
      refine x_if_eq (pc := 46) (tgt := 67) C dX7_text_46 (by decide) (fun q => ?_) (fun q => ?_)
      · rw [if_pos q] at h
        exact x_sub (tX7_text_67 C hr h) (xLe_s (xLe_n (xLe_n xLe_0)))
      · rw [if_neg q] at h
        refine x_aload_n (pc := 49) C dX7_text_49 rfl rfl ?_
        obtain ⟨k, h⟩ := chk_s h
        have k2 := k
        obtain ⟨k, h⟩ := chk_s h
        refine x_getR (pc := 50) C fX7_32 rfl k2 k dX7_text_50 ?_
        obtain ⟨k, h⟩ := chk_s h
        have k2 := k
        obtain ⟨v3, σ4, k, h⟩ := bnd_s h
        refine x_callV1 (pc := 53) C (mX3_readLine E l k) cl2 k2 cX7_77 nX3_readLine sX3_readLine rfl rfl (Nat.le_of_ble_eq_true rfl) ⟨Nat.le_of_ble_eq_true rfl, Nat.le_of_ble_eq_true rfl, Nat.le_of_ble_eq_true rfl, Nat.le_of_ble_eq_true rfl⟩ dX7_text_53 ?_
        refine x_if_ne (pc := 56) (tgt := 61) C dX7_text_56 (by decide) (fun q => ?_) (fun q => ?_)
        · rw [if_pos q] at h
          exact x_sub (tX7_text_59 C hr h) (xLe_n (xLe_n (xLe_n xLe_0)))
        · rw [if_neg q] at h
          refine x_iinc (v := 1) (M := [some _, some _, some _]) (pc := 61) C dX7_text_61 rfl (by decide) (by decide) rfl ?_
          refine x_goto (tgt := 34) (pc := 64) C dX7_text_64 (by decide) ?_
          exact x_sub (ih _ _ _ _ h) (xLe_s (xLe_s (xLe_s xLe_0)))
def DX7_text (l0 : Nat) (l1 : Int32) (σ : Sg) : Option (Int32 × Sg) :=
  if l1 < 0 then
    DX7_text_12 σ
  else
    chk (ckO σ 5 l0) <|
    if l1 ≤ (gI σ l0 1) then
      chk (ckO σ 5 l0) <|
      wlet (pI σ l0 1 (0 : Int32)) fun σ1 =>
      chk (ckO σ1 5 l0) <|
      chk (ckV (gR σ1 l0 4)) <|
      chk (ckO σ1 5 l0) <|
      chk (ckV (gR σ1 l0 3)) <|
      chk (ckO σ1 2 (gR σ1 l0 4)) <|
      bnd (DX3_open (gR σ1 l0 4) (gR σ1 l0 3) l1 σ1) fun _ σ2 =>
      DX7_text_34 FU l0 l1 (0 : Int32) σ2
    else
      DX7_text_12 σ
theorem mX7_text (E : Ev) (l : Launch) {l0 : Nat} {l1 : Int32} {σ : Sg} {r : Int32} {σ' : Sg} (h : DX7_text l0 l1 σ = some (r, σ')) : Mt E l yX7_text cX7_text 3 (some .int) 7 0 0 [.ref (ad E l0), .int l1] σ (some (.int r)) σ' := by
  refine Mt.ofX (by decide) (Nat.le_of_ble_eq_true rfl) (L0 := [some (.ref (ad E l0)), some (.int l1), none]) (xEntN_ok [.ref (ad E l0), .int l1] 3) (fun p e s m args below meth c C hr hn => ?_)
  unfold DX7_text at h
  refine x_iload_n (pc := 0) C dX7_text_0 rfl rfl ?_
  refine x_if_lt (pc := 1) (tgt := 12) C dX7_text_1 (by decide) (fun q => ?_) (fun q => ?_)
  · rw [if_pos q] at h
    exact x_sub (tX7_text_12 C hr h) (xLe_n (xLe_n (xLe_n xLe_0)))
  · rw [if_neg q] at h
    refine x_iload_n (pc := 4) C dX7_text_4 rfl rfl ?_
    refine x_aload_n (pc := 5) C dX7_text_5 rfl rfl ?_
    obtain ⟨k, h⟩ := chk_s h
    refine x_getI (pc := 6) C fX7_13 rfl k dX7_text_6 ?_
    refine x_icmp_le (pc := 9) (tgt := 15) C dX7_text_9 (by decide) (fun q => ?_) (fun q => ?_)
    · rw [if_pos q] at h
      refine x_aload_n (pc := 15) C dX7_text_15 rfl rfl ?_
      refine x_iconst (v := 0) (pc := 16) C dX7_text_16 (by decide) ?_
      obtain ⟨k, h⟩ := chk_s h
      obtain ⟨σ1, e1, h⟩ := wlet_s h
      refine x_putI (pc := 17) C pX7_13 rfl k dX7_text_17 (x_eq e1 ?_)
      refine x_aload_n (pc := 20) C dX7_text_20 rfl rfl ?_
      obtain ⟨k, h⟩ := chk_s h
      have k2 := k
      obtain ⟨k, h⟩ := chk_s h
      refine x_getR (pc := 21) C fX7_32 rfl k2 k dX7_text_21 ?_
      refine x_aload_n (pc := 24) C dX7_text_24 rfl rfl ?_
      obtain ⟨k, h⟩ := chk_s h
      have k2 := k
      obtain ⟨k, h⟩ := chk_s h
      refine x_getR (pc := 25) C fX7_24 rfl k2 k dX7_text_25 ?_
      refine x_iload_n (pc := 28) C dX7_text_28 rfl rfl ?_
      obtain ⟨k, h⟩ := chk_s h
      have k2 := k
      obtain ⟨u0, σ2, k, h⟩ := bnd_s h
      refine x_callV0 (pc := 29) C (mX3_open E l k) cl2 k2 cX7_69 nX3_open sX3_open rfl rfl (Nat.le_of_ble_eq_true rfl) ⟨Nat.le_of_ble_eq_true rfl, Nat.le_of_ble_eq_true rfl, Nat.le_of_ble_eq_true rfl, Nat.le_of_ble_eq_true rfl⟩ dX7_text_29 ?_
      refine x_iconst (v := 0) (pc := 32) C dX7_text_32 (by decide) ?_
      refine x_istore_n (M := [some _, some _, some _]) (pc := 33) C dX7_text_33 rfl (by decide) rfl ?_
      exact x_sub (tX7_text_34 C hr FU _ _ _ _ h) (xLe_s (xLe_s (xLe_s xLe_0)))
    · rw [if_neg q] at h
      exact x_sub (tX7_text_12 C hr h) (xLe_n (xLe_n (xLe_n xLe_0)))
def DX7_fault (l0 : Nat) (l1 : Int32) (σ : Sg) : Option (Int32 × Sg) :=
  if l1 = 0 then
    chk (ckO σ 5 l0) <|
    chk (ckV (gR σ l0 4)) <|
    chk (ckO σ 2 (gR σ l0 4)) <|
    some ((gI σ (gR σ l0 4) 9), σ)
  else
    if l1 = 1 then
      chk (ckO σ 5 l0) <|
      chk (ckV (gR σ l0 4)) <|
      chk (ckO σ 2 (gR σ l0 4)) <|
      some ((gI σ (gR σ l0 4) 10), σ)
    else
      some ((-1 : Int32), σ)
theorem mX7_fault (E : Ev) (l : Launch) {l0 : Nat} {l1 : Int32} {σ : Sg} {r : Int32} {σ' : Sg} (h : DX7_fault l0 l1 σ = some (r, σ')) : Mt E l yX7_fault cX7_fault 2 (some .int) 1 0 0 [.ref (ad E l0), .int l1] σ (some (.int r)) σ' := by
  refine Mt.ofX (by decide) (Nat.le_of_ble_eq_true rfl) (L0 := [some (.ref (ad E l0)), some (.int l1)]) (xEntN_ok [.ref (ad E l0), .int l1] 2) (fun p e s m args below meth c C hr hn => ?_)
  unfold DX7_fault at h
  refine x_iload_n (pc := 0) C dX7_fault_0 rfl rfl ?_
  refine br_em (c := l1 = 0) (fun q0 => ?_) (fun q0 => ?_)
  · rw [if_pos q0] at h
    refine x_lookup (pc := 1) (tgt := 28) C dX7_fault_1 (by decide) (o := 27) (by rw [q0]; rfl) (by decide) ?_
    refine x_aload_n (pc := 28) C dX7_fault_28 rfl rfl ?_
    obtain ⟨k, h⟩ := chk_s h
    have k2 := k
    obtain ⟨k, h⟩ := chk_s h
    refine x_getR (pc := 29) C fX7_32 rfl k2 k dX7_fault_29 ?_
    obtain ⟨k, h⟩ := chk_s h
    refine x_getI (pc := 32) C fX7_85 rfl k dX7_fault_32 ?_
    cases h
    exact x_iret C hr dX7_fault_35
  · rw [if_neg q0] at h
    refine br_em (c := l1 = 1) (fun q1 => ?_) (fun q1 => ?_)
    · rw [if_pos q1] at h
      refine x_lookup (pc := 1) (tgt := 36) C dX7_fault_1 (by decide) (o := 35) (by rw [q1]; rfl) (by decide) ?_
      refine x_aload_n (pc := 36) C dX7_fault_36 rfl rfl ?_
      obtain ⟨k, h⟩ := chk_s h
      have k2 := k
      obtain ⟨k, h⟩ := chk_s h
      refine x_getR (pc := 37) C fX7_32 rfl k2 k dX7_fault_37 ?_
      obtain ⟨k, h⟩ := chk_s h
      refine x_getI (pc := 40) C fX7_88 rfl k dX7_fault_40 ?_
      cases h
      exact x_iret C hr dX7_fault_43
    · rw [if_neg q1] at h
      have eq0 := sw_ne (k := 0) q0 (by decide)
      have eq1 := sw_ne (k := 1) q1 (by decide)
      refine x_lookup (pc := 1) (tgt := 44) C dX7_fault_1 (by decide) (o := 43) (by simp [Op.lookupswitch.offset, Ne.symm eq0, Ne.symm eq1]) (by decide) ?_
      refine x_iconst (v := -1) (pc := 44) C dX7_fault_44 (by decide) ?_
      cases h
      exact x_iret C hr dX7_fault_45
def DX7_isPlace_20 (s0 : Int32) (σ : Sg) : Option (Int32 × Sg) :=
  chk (ck01 s0) <|
  some (s0, σ)
theorem tX7_isPlace_20 {r : Int32} {σ' : Sg} (C : Cx E p s m args meth c RX7 cX7_isPlace 2) (hr : meth.sig.returnType = (some .boolean)) {s0 : Int32} {σ : Sg} (h : DX7_isPlace_20 s0 σ = some (r, σ')) : Y E p l e (rmA 1 0 0) s m args below meth c (some (.int r)) σ' 0 0 2 0 0 σ 20 [none, none] [.int s0] := by
  unfold DX7_isPlace_20 at h
  obtain ⟨kz, h⟩ := chk_s h
  cases h
  exact x_zret C hr (nar_01 kz) dX7_isPlace_20
def DX7_isPlace_19 (σ : Sg) : Option (Int32 × Sg) :=
  DX7_isPlace_20 (0 : Int32) σ
theorem tX7_isPlace_19 {r : Int32} {σ' : Sg} (C : Cx E p s m args meth c RX7 cX7_isPlace 2) (hr : meth.sig.returnType = (some .boolean)) {σ : Sg} (h : DX7_isPlace_19  σ = some (r, σ')) : Y E p l e (rmA 1 0 0) s m args below meth c (some (.int r)) σ' 0 0 2 0 0 σ 19 [none, none] [] := by
  unfold DX7_isPlace_19 at h
  refine x_iconst (v := 0) (pc := 19) C dX7_isPlace_19 (by decide) ?_
  exact x_sub (tX7_isPlace_20 C hr h) (xLe_n (xLe_n xLe_0))
def DX7_isPlace (l0 : Nat) (l1 : Int32) (σ : Sg) : Option (Int32 × Sg) :=
  if l1 < 0 then
    DX7_isPlace_19 σ
  else
    chk (ckO σ 5 l0) <|
    chk (ckV (gR σ l0 2)) <|
    chk (ckO σ 0 (gR σ l0 2)) <|
    if (gI σ (gR σ l0 2) 1) ≤ l1 then
      DX7_isPlace_19 σ
    else
      DX7_isPlace_20 (1 : Int32) σ
theorem mX7_isPlace (E : Ev) (l : Launch) {l0 : Nat} {l1 : Int32} {σ : Sg} {r : Int32} {σ' : Sg} (h : DX7_isPlace l0 l1 σ = some (r, σ')) : Mt E l yX7_isPlace cX7_isPlace 2 (some .boolean) 1 0 0 [.ref (ad E l0), .int l1] σ (some (.int r)) σ' := by
  refine Mt.ofX (by decide) (Nat.le_of_ble_eq_true rfl) (L0 := [some (.ref (ad E l0)), some (.int l1)]) (xEntN_ok [.ref (ad E l0), .int l1] 2) (fun p e s m args below meth c C hr hn => ?_)
  unfold DX7_isPlace at h
  refine x_iload_n (pc := 0) C dX7_isPlace_0 rfl rfl ?_
  refine x_if_lt (pc := 1) (tgt := 19) C dX7_isPlace_1 (by decide) (fun q => ?_) (fun q => ?_)
  · rw [if_pos q] at h
    exact x_sub (tX7_isPlace_19 C hr h) (xLe_n (xLe_n xLe_0))
  · rw [if_neg q] at h
    refine x_iload_n (pc := 4) C dX7_isPlace_4 rfl rfl ?_
    refine x_aload_n (pc := 5) C dX7_isPlace_5 rfl rfl ?_
    obtain ⟨k, h⟩ := chk_s h
    have k2 := k
    obtain ⟨k, h⟩ := chk_s h
    refine x_getR (pc := 6) C fX7_20 rfl k2 k dX7_isPlace_6 ?_
    obtain ⟨k, h⟩ := chk_s h
    refine x_getI (pc := 9) C fX7_91 rfl k dX7_isPlace_9 ?_
    refine x_icmp_ge (pc := 12) (tgt := 19) C dX7_isPlace_12 (by decide) (fun q => ?_) (fun q => ?_)
    · rw [if_pos q] at h
      exact x_sub (tX7_isPlace_19 C hr h) (xLe_n (xLe_n xLe_0))
    · rw [if_neg q] at h
      refine x_iconst (v := 1) (pc := 15) C dX7_isPlace_15 (by decide) ?_
      refine x_goto (tgt := 20) (pc := 16) C dX7_isPlace_16 (by decide) ?_
      exact x_sub (tX7_isPlace_20 C hr h) (xLe_n (xLe_n xLe_0))
def DX7_isCarrier_20 (s0 : Int32) (σ : Sg) : Option (Int32 × Sg) :=
  chk (ck01 s0) <|
  some (s0, σ)
theorem tX7_isCarrier_20 {r : Int32} {σ' : Sg} (C : Cx E p s m args meth c RX7 cX7_isCarrier 2) (hr : meth.sig.returnType = (some .boolean)) {s0 : Int32} {σ : Sg} (h : DX7_isCarrier_20 s0 σ = some (r, σ')) : Y E p l e (rmA 1 0 0) s m args below meth c (some (.int r)) σ' 0 0 2 0 0 σ 20 [none, none] [.int s0] := by
  unfold DX7_isCarrier_20 at h
  obtain ⟨kz, h⟩ := chk_s h
  cases h
  exact x_zret C hr (nar_01 kz) dX7_isCarrier_20
def DX7_isCarrier_19 (σ : Sg) : Option (Int32 × Sg) :=
  DX7_isCarrier_20 (0 : Int32) σ
theorem tX7_isCarrier_19 {r : Int32} {σ' : Sg} (C : Cx E p s m args meth c RX7 cX7_isCarrier 2) (hr : meth.sig.returnType = (some .boolean)) {σ : Sg} (h : DX7_isCarrier_19  σ = some (r, σ')) : Y E p l e (rmA 1 0 0) s m args below meth c (some (.int r)) σ' 0 0 2 0 0 σ 19 [none, none] [] := by
  unfold DX7_isCarrier_19 at h
  refine x_iconst (v := 0) (pc := 19) C dX7_isCarrier_19 (by decide) ?_
  exact x_sub (tX7_isCarrier_20 C hr h) (xLe_n (xLe_n xLe_0))
def DX7_isCarrier (l0 : Nat) (l1 : Int32) (σ : Sg) : Option (Int32 × Sg) :=
  if l1 < 0 then
    DX7_isCarrier_19 σ
  else
    chk (ckO σ 5 l0) <|
    chk (ckV (gR σ l0 2)) <|
    chk (ckO σ 0 (gR σ l0 2)) <|
    if (gI σ (gR σ l0 2) 2) ≤ l1 then
      DX7_isCarrier_19 σ
    else
      DX7_isCarrier_20 (1 : Int32) σ
theorem mX7_isCarrier (E : Ev) (l : Launch) {l0 : Nat} {l1 : Int32} {σ : Sg} {r : Int32} {σ' : Sg} (h : DX7_isCarrier l0 l1 σ = some (r, σ')) : Mt E l yX7_isCarrier cX7_isCarrier 2 (some .boolean) 1 0 0 [.ref (ad E l0), .int l1] σ (some (.int r)) σ' := by
  refine Mt.ofX (by decide) (Nat.le_of_ble_eq_true rfl) (L0 := [some (.ref (ad E l0)), some (.int l1)]) (xEntN_ok [.ref (ad E l0), .int l1] 2) (fun p e s m args below meth c C hr hn => ?_)
  unfold DX7_isCarrier at h
  refine x_iload_n (pc := 0) C dX7_isCarrier_0 rfl rfl ?_
  refine x_if_lt (pc := 1) (tgt := 19) C dX7_isCarrier_1 (by decide) (fun q => ?_) (fun q => ?_)
  · rw [if_pos q] at h
    exact x_sub (tX7_isCarrier_19 C hr h) (xLe_n (xLe_n xLe_0))
  · rw [if_neg q] at h
    refine x_iload_n (pc := 4) C dX7_isCarrier_4 rfl rfl ?_
    refine x_aload_n (pc := 5) C dX7_isCarrier_5 rfl rfl ?_
    obtain ⟨k, h⟩ := chk_s h
    have k2 := k
    obtain ⟨k, h⟩ := chk_s h
    refine x_getR (pc := 6) C fX7_20 rfl k2 k dX7_isCarrier_6 ?_
    obtain ⟨k, h⟩ := chk_s h
    refine x_getI (pc := 9) C fX7_94 rfl k dX7_isCarrier_9 ?_
    refine x_icmp_ge (pc := 12) (tgt := 19) C dX7_isCarrier_12 (by decide) (fun q => ?_) (fun q => ?_)
    · rw [if_pos q] at h
      exact x_sub (tX7_isCarrier_19 C hr h) (xLe_n (xLe_n xLe_0))
    · rw [if_neg q] at h
      refine x_iconst (v := 1) (pc := 15) C dX7_isCarrier_15 (by decide) ?_
      refine x_goto (tgt := 20) (pc := 16) C dX7_isCarrier_16 (by decide) ?_
      exact x_sub (tX7_isCarrier_20 C hr h) (xLe_n (xLe_n xLe_0))
def DX7_isProviso_20 (s0 : Int32) (σ : Sg) : Option (Int32 × Sg) :=
  chk (ck01 s0) <|
  some (s0, σ)
theorem tX7_isProviso_20 {r : Int32} {σ' : Sg} (C : Cx E p s m args meth c RX7 cX7_isProviso 2) (hr : meth.sig.returnType = (some .boolean)) {s0 : Int32} {σ : Sg} (h : DX7_isProviso_20 s0 σ = some (r, σ')) : Y E p l e (rmA 1 0 0) s m args below meth c (some (.int r)) σ' 0 0 2 0 0 σ 20 [none, none] [.int s0] := by
  unfold DX7_isProviso_20 at h
  obtain ⟨kz, h⟩ := chk_s h
  cases h
  exact x_zret C hr (nar_01 kz) dX7_isProviso_20
def DX7_isProviso_19 (σ : Sg) : Option (Int32 × Sg) :=
  DX7_isProviso_20 (0 : Int32) σ
theorem tX7_isProviso_19 {r : Int32} {σ' : Sg} (C : Cx E p s m args meth c RX7 cX7_isProviso 2) (hr : meth.sig.returnType = (some .boolean)) {σ : Sg} (h : DX7_isProviso_19  σ = some (r, σ')) : Y E p l e (rmA 1 0 0) s m args below meth c (some (.int r)) σ' 0 0 2 0 0 σ 19 [none, none] [] := by
  unfold DX7_isProviso_19 at h
  refine x_iconst (v := 0) (pc := 19) C dX7_isProviso_19 (by decide) ?_
  exact x_sub (tX7_isProviso_20 C hr h) (xLe_n (xLe_n xLe_0))
def DX7_isProviso (l0 : Nat) (l1 : Int32) (σ : Sg) : Option (Int32 × Sg) :=
  if l1 < 0 then
    DX7_isProviso_19 σ
  else
    chk (ckO σ 5 l0) <|
    chk (ckV (gR σ l0 2)) <|
    chk (ckO σ 0 (gR σ l0 2)) <|
    if (gI σ (gR σ l0 2) 5) ≤ l1 then
      DX7_isProviso_19 σ
    else
      DX7_isProviso_20 (1 : Int32) σ
theorem mX7_isProviso (E : Ev) (l : Launch) {l0 : Nat} {l1 : Int32} {σ : Sg} {r : Int32} {σ' : Sg} (h : DX7_isProviso l0 l1 σ = some (r, σ')) : Mt E l yX7_isProviso cX7_isProviso 2 (some .boolean) 1 0 0 [.ref (ad E l0), .int l1] σ (some (.int r)) σ' := by
  refine Mt.ofX (by decide) (Nat.le_of_ble_eq_true rfl) (L0 := [some (.ref (ad E l0)), some (.int l1)]) (xEntN_ok [.ref (ad E l0), .int l1] 2) (fun p e s m args below meth c C hr hn => ?_)
  unfold DX7_isProviso at h
  refine x_iload_n (pc := 0) C dX7_isProviso_0 rfl rfl ?_
  refine x_if_lt (pc := 1) (tgt := 19) C dX7_isProviso_1 (by decide) (fun q => ?_) (fun q => ?_)
  · rw [if_pos q] at h
    exact x_sub (tX7_isProviso_19 C hr h) (xLe_n (xLe_n xLe_0))
  · rw [if_neg q] at h
    refine x_iload_n (pc := 4) C dX7_isProviso_4 rfl rfl ?_
    refine x_aload_n (pc := 5) C dX7_isProviso_5 rfl rfl ?_
    obtain ⟨k, h⟩ := chk_s h
    have k2 := k
    obtain ⟨k, h⟩ := chk_s h
    refine x_getR (pc := 6) C fX7_20 rfl k2 k dX7_isProviso_6 ?_
    obtain ⟨k, h⟩ := chk_s h
    refine x_getI (pc := 9) C fX7_97 rfl k dX7_isProviso_9 ?_
    refine x_icmp_ge (pc := 12) (tgt := 19) C dX7_isProviso_12 (by decide) (fun q => ?_) (fun q => ?_)
    · rw [if_pos q] at h
      exact x_sub (tX7_isProviso_19 C hr h) (xLe_n (xLe_n xLe_0))
    · rw [if_neg q] at h
      refine x_iconst (v := 1) (pc := 15) C dX7_isProviso_15 (by decide) ?_
      refine x_goto (tgt := 20) (pc := 16) C dX7_isProviso_16 (by decide) ?_
      exact x_sub (tX7_isProviso_20 C hr h) (xLe_n (xLe_n xLe_0))
def DX7_isTicket_20 (s0 : Int32) (σ : Sg) : Option (Int32 × Sg) :=
  chk (ck01 s0) <|
  some (s0, σ)
theorem tX7_isTicket_20 {r : Int32} {σ' : Sg} (C : Cx E p s m args meth c RX7 cX7_isTicket 2) (hr : meth.sig.returnType = (some .boolean)) {s0 : Int32} {σ : Sg} (h : DX7_isTicket_20 s0 σ = some (r, σ')) : Y E p l e (rmA 1 0 0) s m args below meth c (some (.int r)) σ' 0 0 2 0 0 σ 20 [none, none] [.int s0] := by
  unfold DX7_isTicket_20 at h
  obtain ⟨kz, h⟩ := chk_s h
  cases h
  exact x_zret C hr (nar_01 kz) dX7_isTicket_20
def DX7_isTicket_19 (σ : Sg) : Option (Int32 × Sg) :=
  DX7_isTicket_20 (0 : Int32) σ
theorem tX7_isTicket_19 {r : Int32} {σ' : Sg} (C : Cx E p s m args meth c RX7 cX7_isTicket 2) (hr : meth.sig.returnType = (some .boolean)) {σ : Sg} (h : DX7_isTicket_19  σ = some (r, σ')) : Y E p l e (rmA 1 0 0) s m args below meth c (some (.int r)) σ' 0 0 2 0 0 σ 19 [none, none] [] := by
  unfold DX7_isTicket_19 at h
  refine x_iconst (v := 0) (pc := 19) C dX7_isTicket_19 (by decide) ?_
  exact x_sub (tX7_isTicket_20 C hr h) (xLe_n (xLe_n xLe_0))
def DX7_isTicket (l0 : Nat) (l1 : Int32) (σ : Sg) : Option (Int32 × Sg) :=
  if l1 < 0 then
    DX7_isTicket_19 σ
  else
    chk (ckO σ 5 l0) <|
    chk (ckV (gR σ l0 2)) <|
    chk (ckO σ 0 (gR σ l0 2)) <|
    if (gI σ (gR σ l0 2) 9) ≤ l1 then
      DX7_isTicket_19 σ
    else
      DX7_isTicket_20 (1 : Int32) σ
theorem mX7_isTicket (E : Ev) (l : Launch) {l0 : Nat} {l1 : Int32} {σ : Sg} {r : Int32} {σ' : Sg} (h : DX7_isTicket l0 l1 σ = some (r, σ')) : Mt E l yX7_isTicket cX7_isTicket 2 (some .boolean) 1 0 0 [.ref (ad E l0), .int l1] σ (some (.int r)) σ' := by
  refine Mt.ofX (by decide) (Nat.le_of_ble_eq_true rfl) (L0 := [some (.ref (ad E l0)), some (.int l1)]) (xEntN_ok [.ref (ad E l0), .int l1] 2) (fun p e s m args below meth c C hr hn => ?_)
  unfold DX7_isTicket at h
  refine x_iload_n (pc := 0) C dX7_isTicket_0 rfl rfl ?_
  refine x_if_lt (pc := 1) (tgt := 19) C dX7_isTicket_1 (by decide) (fun q => ?_) (fun q => ?_)
  · rw [if_pos q] at h
    exact x_sub (tX7_isTicket_19 C hr h) (xLe_n (xLe_n xLe_0))
  · rw [if_neg q] at h
    refine x_iload_n (pc := 4) C dX7_isTicket_4 rfl rfl ?_
    refine x_aload_n (pc := 5) C dX7_isTicket_5 rfl rfl ?_
    obtain ⟨k, h⟩ := chk_s h
    have k2 := k
    obtain ⟨k, h⟩ := chk_s h
    refine x_getR (pc := 6) C fX7_20 rfl k2 k dX7_isTicket_6 ?_
    obtain ⟨k, h⟩ := chk_s h
    refine x_getI (pc := 9) C fX7_100 rfl k dX7_isTicket_9 ?_
    refine x_icmp_ge (pc := 12) (tgt := 19) C dX7_isTicket_12 (by decide) (fun q => ?_) (fun q => ?_)
    · rw [if_pos q] at h
      exact x_sub (tX7_isTicket_19 C hr h) (xLe_n (xLe_n xLe_0))
    · rw [if_neg q] at h
      refine x_iconst (v := 1) (pc := 15) C dX7_isTicket_15 (by decide) ?_
      refine x_goto (tgt := 20) (pc := 16) C dX7_isTicket_16 (by decide) ?_
      exact x_sub (tX7_isTicket_20 C hr h) (xLe_n (xLe_n xLe_0))
def DX7_isCoupon_29 (s0 : Int32) (σ : Sg) : Option (Int32 × Sg) :=
  chk (ck01 s0) <|
  some (s0, σ)
theorem tX7_isCoupon_29 {r : Int32} {σ' : Sg} (C : Cx E p s m args meth c RX7 cX7_isCoupon 3) (hr : meth.sig.returnType = (some .boolean)) {s0 : Int32} {σ : Sg} (h : DX7_isCoupon_29 s0 σ = some (r, σ')) : Y E p l e (rmA 2 0 0) s m args below meth c (some (.int r)) σ' 0 0 3 0 0 σ 29 [none, none, none] [.int s0] := by
  unfold DX7_isCoupon_29 at h
  obtain ⟨kz, h⟩ := chk_s h
  cases h
  exact x_zret C hr (nar_01 kz) dX7_isCoupon_29
def DX7_isCoupon_28 (σ : Sg) : Option (Int32 × Sg) :=
  DX7_isCoupon_29 (0 : Int32) σ
theorem tX7_isCoupon_28 {r : Int32} {σ' : Sg} (C : Cx E p s m args meth c RX7 cX7_isCoupon 3) (hr : meth.sig.returnType = (some .boolean)) {σ : Sg} (h : DX7_isCoupon_28  σ = some (r, σ')) : Y E p l e (rmA 2 0 0) s m args below meth c (some (.int r)) σ' 0 0 3 0 0 σ 28 [none, none, none] [] := by
  unfold DX7_isCoupon_28 at h
  refine x_iconst (v := 0) (pc := 28) C dX7_isCoupon_28 (by decide) ?_
  exact x_sub (tX7_isCoupon_29 C hr h) (xLe_n (xLe_n (xLe_n xLe_0)))
def DX7_isCoupon (l0 : Nat) (l1 : Int32) (l2 : Int32) (σ : Sg) : Option (Int32 × Sg) :=
  chk (ckO σ 5 l0) <|
  bnd (DX7_isTicket l0 l1 σ) fun v1 σ2 =>
  if v1 = 0 then
    DX7_isCoupon_28 σ2
  else
    if l2 < 0 then
      DX7_isCoupon_28 σ2
    else
      chk (ckO σ2 5 l0) <|
      chk (ckV (gR σ2 l0 2)) <|
      chk (ckO σ2 0 (gR σ2 l0 2)) <|
      bnd (DX1_couponsOf (gR σ2 l0 2) l1 σ2) fun v3 σ4 =>
      if v3 ≤ l2 then
        DX7_isCoupon_28 σ4
      else
        DX7_isCoupon_29 (1 : Int32) σ4
theorem mX7_isCoupon (E : Ev) (l : Launch) {l0 : Nat} {l1 : Int32} {l2 : Int32} {σ : Sg} {r : Int32} {σ' : Sg} (h : DX7_isCoupon l0 l1 l2 σ = some (r, σ')) : Mt E l yX7_isCoupon cX7_isCoupon 3 (some .boolean) 2 0 0 [.ref (ad E l0), .int l1, .int l2] σ (some (.int r)) σ' := by
  refine Mt.ofX (by decide) (Nat.le_of_ble_eq_true rfl) (L0 := [some (.ref (ad E l0)), some (.int l1), some (.int l2)]) (xEntN_ok [.ref (ad E l0), .int l1, .int l2] 3) (fun p e s m args below meth c C hr hn => ?_)
  unfold DX7_isCoupon at h
  refine x_aload_n (pc := 0) C dX7_isCoupon_0 rfl rfl ?_
  refine x_iload_n (pc := 1) C dX7_isCoupon_1 rfl rfl ?_
  obtain ⟨k, h⟩ := chk_s h
  have k2 := k
  obtain ⟨v1, σ2, k, h⟩ := bnd_s h
  refine x_callV1 (pc := 2) C (mX7_isTicket E l k) cl5 k2 cX7_103 nX7_isTicket sX7_isTicket rfl rfl (Nat.le_of_ble_eq_true rfl) ⟨Nat.le_of_ble_eq_true rfl, Nat.le_of_ble_eq_true rfl, Nat.le_of_ble_eq_true rfl, Nat.le_of_ble_eq_true rfl⟩ dX7_isCoupon_2 ?_
  refine x_if_eq (pc := 5) (tgt := 28) C dX7_isCoupon_5 (by decide) (fun q => ?_) (fun q => ?_)
  · rw [if_pos q] at h
    exact x_sub (tX7_isCoupon_28 C hr h) (xLe_n (xLe_n (xLe_n xLe_0)))
  · rw [if_neg q] at h
    refine x_iload_n (pc := 8) C dX7_isCoupon_8 rfl rfl ?_
    refine x_if_lt (pc := 9) (tgt := 28) C dX7_isCoupon_9 (by decide) (fun q => ?_) (fun q => ?_)
    · rw [if_pos q] at h
      exact x_sub (tX7_isCoupon_28 C hr h) (xLe_n (xLe_n (xLe_n xLe_0)))
    · rw [if_neg q] at h
      refine x_iload_n (pc := 12) C dX7_isCoupon_12 rfl rfl ?_
      refine x_aload_n (pc := 13) C dX7_isCoupon_13 rfl rfl ?_
      obtain ⟨k, h⟩ := chk_s h
      have k2 := k
      obtain ⟨k, h⟩ := chk_s h
      refine x_getR (pc := 14) C fX7_20 rfl k2 k dX7_isCoupon_14 ?_
      refine x_iload_n (pc := 17) C dX7_isCoupon_17 rfl rfl ?_
      obtain ⟨k, h⟩ := chk_s h
      have k2 := k
      obtain ⟨v3, σ4, k, h⟩ := bnd_s h
      refine x_callV1 (pc := 18) C (mX1_couponsOf E l k) cl0 k2 cX7_107 nX1_couponsOf sX1_couponsOf rfl rfl (Nat.le_of_ble_eq_true rfl) ⟨Nat.le_of_ble_eq_true rfl, Nat.le_of_ble_eq_true rfl, Nat.le_of_ble_eq_true rfl, Nat.le_of_ble_eq_true rfl⟩ dX7_isCoupon_18 ?_
      refine x_icmp_ge (pc := 21) (tgt := 28) C dX7_isCoupon_21 (by decide) (fun q => ?_) (fun q => ?_)
      · rw [if_pos q] at h
        exact x_sub (tX7_isCoupon_28 C hr h) (xLe_n (xLe_n (xLe_n xLe_0)))
      · rw [if_neg q] at h
        refine x_iconst (v := 1) (pc := 24) C dX7_isCoupon_24 (by decide) ?_
        refine x_goto (tgt := 29) (pc := 25) C dX7_isCoupon_25 (by decide) ?_
        exact x_sub (tX7_isCoupon_29 C hr h) (xLe_n (xLe_n (xLe_n xLe_0)))
def DX7_miles_16 (σ : Sg) : Option (Int32 × Sg) :=
  some ((-1 : Int32), σ)
theorem tX7_miles_16 {r : Int32} {σ' : Sg} (C : Cx E p s m args meth c RX7 cX7_miles 3) (hr : meth.sig.returnType = (some .int)) {σ : Sg} (h : DX7_miles_16  σ = some (r, σ')) : Y E p l e (rmA 2 0 0) s m args below meth c (some (.int r)) σ' 0 0 3 0 0 σ 16 [none, none, none] [] := by
  unfold DX7_miles_16 at h
  refine x_iconst (v := -1) (pc := 16) C dX7_miles_16 (by decide) ?_
  cases h
  exact x_iret C hr dX7_miles_17
def DX7_miles_46 (s0 : Int32) (σ : Sg) : Option (Int32 × Sg) :=
  some (s0, σ)
theorem tX7_miles_46 {r : Int32} {σ' : Sg} (C : Cx E p s m args meth c RX7 cX7_miles 3) (hr : meth.sig.returnType = (some .int)) {s0 : Int32} {σ : Sg} (h : DX7_miles_46 s0 σ = some (r, σ')) : Y E p l e (rmA 2 0 0) s m args below meth c (some (.int r)) σ' 0 0 3 0 0 σ 46 [none, none, none] [.int s0] := by
  unfold DX7_miles_46 at h
  cases h
  exact x_iret C hr dX7_miles_46
def DX7_miles (l0 : Nat) (l1 : Int32) (l2 : Int32) (σ : Sg) : Option (Int32 × Sg) :=
  chk (ckO σ 5 l0) <|
  bnd (DX7_isPlace l0 l1 σ) fun v1 σ2 =>
  if v1 = 0 then
    DX7_miles_16 σ2
  else
    chk (ckO σ2 5 l0) <|
    bnd (DX7_isPlace l0 l2 σ2) fun v3 σ4 =>
    if v3 = 0 then
      DX7_miles_16 σ4
    else
      chk (ckO σ4 5 l0) <|
      chk (ckV (gR σ4 l0 2)) <|
      chk (ckO σ4 0 (gR σ4 l0 2)) <|
      bnd (DX1_hasWay (gR σ4 l0 2) l1 l2 σ4) fun v5 σ6 =>
      if v5 = 0 then
        DX7_miles_46 (-2 : Int32) σ6
      else
        chk (ckO σ6 5 l0) <|
        chk (ckV (gR σ6 l0 2)) <|
        chk (ckO σ6 0 (gR σ6 l0 2)) <|
        chk (ckV (gR σ6 (gR σ6 l0 2) 14)) <|
        chk (ckG σ6 (gR σ6 (gR σ6 l0 2) 14) l1) <|
        chk (ckR σ6 (gR σ6 (gR σ6 l0 2) 14) l1.toNatClampNeg l2) <|
        DX7_miles_46 (aG σ6 (gR σ6 (gR σ6 l0 2) 14) l1.toNatClampNeg l2.toNatClampNeg) σ6
theorem mX7_miles (E : Ev) (l : Launch) {l0 : Nat} {l1 : Int32} {l2 : Int32} {σ : Sg} {r : Int32} {σ' : Sg} (h : DX7_miles l0 l1 l2 σ = some (r, σ')) : Mt E l yX7_miles cX7_miles 3 (some .int) 2 0 0 [.ref (ad E l0), .int l1, .int l2] σ (some (.int r)) σ' := by
  refine Mt.ofX (by decide) (Nat.le_of_ble_eq_true rfl) (L0 := [some (.ref (ad E l0)), some (.int l1), some (.int l2)]) (xEntN_ok [.ref (ad E l0), .int l1, .int l2] 3) (fun p e s m args below meth c C hr hn => ?_)
  unfold DX7_miles at h
  refine x_aload_n (pc := 0) C dX7_miles_0 rfl rfl ?_
  refine x_iload_n (pc := 1) C dX7_miles_1 rfl rfl ?_
  obtain ⟨k, h⟩ := chk_s h
  have k2 := k
  obtain ⟨v1, σ2, k, h⟩ := bnd_s h
  refine x_callV1 (pc := 2) C (mX7_isPlace E l k) cl5 k2 cX7_111 nX7_isPlace sX7_isPlace rfl rfl (Nat.le_of_ble_eq_true rfl) ⟨Nat.le_of_ble_eq_true rfl, Nat.le_of_ble_eq_true rfl, Nat.le_of_ble_eq_true rfl, Nat.le_of_ble_eq_true rfl⟩ dX7_miles_2 ?_
  refine x_if_eq (pc := 5) (tgt := 16) C dX7_miles_5 (by decide) (fun q => ?_) (fun q => ?_)
  · rw [if_pos q] at h
    exact x_sub (tX7_miles_16 C hr h) (xLe_n (xLe_n (xLe_n xLe_0)))
  · rw [if_neg q] at h
    refine x_aload_n (pc := 8) C dX7_miles_8 rfl rfl ?_
    refine x_iload_n (pc := 9) C dX7_miles_9 rfl rfl ?_
    obtain ⟨k, h⟩ := chk_s h
    have k2 := k
    obtain ⟨v3, σ4, k, h⟩ := bnd_s h
    refine x_callV1 (pc := 10) C (mX7_isPlace E l k) cl5 k2 cX7_111 nX7_isPlace sX7_isPlace rfl rfl (Nat.le_of_ble_eq_true rfl) ⟨Nat.le_of_ble_eq_true rfl, Nat.le_of_ble_eq_true rfl, Nat.le_of_ble_eq_true rfl, Nat.le_of_ble_eq_true rfl⟩ dX7_miles_10 ?_
    refine x_if_ne (pc := 13) (tgt := 18) C dX7_miles_13 (by decide) (fun q => ?_) (fun q => ?_)
    · rw [if_pos q] at h
      exact x_sub (tX7_miles_16 C hr h) (xLe_n (xLe_n (xLe_n xLe_0)))
    · rw [if_neg q] at h
      refine x_aload_n (pc := 18) C dX7_miles_18 rfl rfl ?_
      obtain ⟨k, h⟩ := chk_s h
      have k2 := k
      obtain ⟨k, h⟩ := chk_s h
      refine x_getR (pc := 19) C fX7_20 rfl k2 k dX7_miles_19 ?_
      refine x_iload_n (pc := 22) C dX7_miles_22 rfl rfl ?_
      refine x_iload_n (pc := 23) C dX7_miles_23 rfl rfl ?_
      obtain ⟨k, h⟩ := chk_s h
      have k2 := k
      obtain ⟨v5, σ6, k, h⟩ := bnd_s h
      refine x_callV1 (pc := 24) C (mX1_hasWay E l k) cl0 k2 cX7_114 nX1_hasWay sX1_hasWay rfl rfl (Nat.le_of_ble_eq_true rfl) ⟨Nat.le_of_ble_eq_true rfl, Nat.le_of_ble_eq_true rfl, Nat.le_of_ble_eq_true rfl, Nat.le_of_ble_eq_true rfl⟩ dX7_miles_24 ?_
      refine x_if_eq (pc := 27) (tgt := 44) C dX7_miles_27 (by decide) (fun q => ?_) (fun q => ?_)
      · rw [if_pos q] at h
        refine x_bipush (v := -2) (pc := 44) C dX7_miles_44 (by decide) ?_
        exact x_sub (tX7_miles_46 C hr h) (xLe_n (xLe_n (xLe_n xLe_0)))
      · rw [if_neg q] at h
        refine x_aload_n (pc := 30) C dX7_miles_30 rfl rfl ?_
        obtain ⟨k, h⟩ := chk_s h
        have k2 := k
        obtain ⟨k, h⟩ := chk_s h
        refine x_getR (pc := 31) C fX7_20 rfl k2 k dX7_miles_31 ?_
        obtain ⟨k, h⟩ := chk_s h
        have k2 := k
        obtain ⟨k, h⟩ := chk_s h
        refine x_getR (pc := 34) C fX7_118 rfl k2 k dX7_miles_34 ?_
        refine x_iload_n (pc := 37) C dX7_miles_37 rfl rfl ?_
        obtain ⟨k, h⟩ := chk_s h
        refine x_gald (pc := 38) C k dX7_miles_38 ?_
        refine x_iload_n (pc := 39) C dX7_miles_39 rfl rfl ?_
        obtain ⟨k, h⟩ := chk_s h
        refine x_rald (pc := 40) C k dX7_miles_40 ?_
        refine x_goto (tgt := 46) (pc := 41) C dX7_miles_41 (by decide) ?_
        exact x_sub (tX7_miles_46 C hr h) (xLe_n (xLe_n (xLe_n xLe_0)))
def DX7_way_20 (σ : Sg) : Option (Int32 × Sg) :=
  some ((-1 : Int32), σ)
theorem tX7_way_20 {r : Int32} {σ' : Sg} (C : Cx E p s m args meth c RX7 cX7_way 6) (hr : meth.sig.returnType = (some .int)) {σ : Sg} (h : DX7_way_20  σ = some (r, σ')) : Y E p l e (rmA 2 0 0) s m args below meth c (some (.int r)) σ' 0 0 6 0 0 σ 20 [none, none, none, none, none, none] [] := by
  unfold DX7_way_20 at h
  refine x_iconst (v := -1) (pc := 20) C dX7_way_20 (by decide) ?_
  cases h
  exact x_iret C hr dX7_way_21
def DX7_way_56 (l4 : Int32) (σ : Sg) : Option (Int32 × Sg) :=
  some (l4, σ)
theorem tX7_way_56 {r : Int32} {σ' : Sg} (C : Cx E p s m args meth c RX7 cX7_way 6) (hr : meth.sig.returnType = (some .int)) {l4 : Int32} {σ : Sg} (h : DX7_way_56 l4 σ = some (r, σ')) : Y E p l e (rmA 2 0 0) s m args below meth c (some (.int r)) σ' 0 0 6 0 0 σ 56 [none, none, none, none, some (.int l4), none] [] := by
  unfold DX7_way_56 at h
  refine x_iload (pc := 56) C dX7_way_56 rfl ?_
  cases h
  exact x_iret C hr dX7_way_58
def DX7_way_77 (σ : Sg) : Option (Int32 × Sg) :=
  some ((-2 : Int32), σ)
theorem tX7_way_77 {r : Int32} {σ' : Sg} (C : Cx E p s m args meth c RX7 cX7_way 6) (hr : meth.sig.returnType = (some .int)) {σ : Sg} (h : DX7_way_77  σ = some (r, σ')) : Y E p l e (rmA 2 0 0) s m args below meth c (some (.int r)) σ' 0 0 6 0 0 σ 77 [none, none, none, none, none, none] [] := by
  unfold DX7_way_77 at h
  refine x_bipush (v := -2) (pc := 77) C dX7_way_77 (by decide) ?_
  cases h
  exact x_iret C hr dX7_way_79
def DX7_way_86 (σ : Sg) : Option (Int32 × Sg) :=
  some ((-2 : Int32), σ)
theorem tX7_way_86 {r : Int32} {σ' : Sg} (C : Cx E p s m args meth c RX7 cX7_way 6) (hr : meth.sig.returnType = (some .int)) {σ : Sg} (h : DX7_way_86  σ = some (r, σ')) : Y E p l e (rmA 2 0 0) s m args below meth c (some (.int r)) σ' 0 0 6 0 0 σ 86 [none, none, none, none, none, none] [] := by
  unfold DX7_way_86 at h
  refine x_bipush (v := -2) (pc := 86) C dX7_way_86 (by decide) ?_
  cases h
  exact x_iret C hr dX7_way_88
def DX7_way_43 : Nat → Nat → Int32 → Int32 → Int32 → Int32 → Sg → Option (Int32 × Sg)
  | 0, _, _, _, _, _, _ => none
  | n + 1, l0, l2, l3, l4, l5, σ =>
    if (12 : Int32) ≤ l5 then
      DX7_way_86 σ
    else
      if l5 = l3 then
        DX7_way_56 l4 σ
      else
        chk (ckO σ 5 l0) <|
        chk (ckV (gR σ l0 2)) <|
        chk (ckO σ 0 (gR σ l0 2)) <|
        bnd (DX1_nextOnWay (gR σ l0 2) l4 l2 σ) fun v1 σ2 =>
        if v1 = (-1 : Int32) then
          DX7_way_77 σ2
        else
          DX7_way_43 n l0 l2 l3 v1 (l5 + (1 : Int32)) σ2
theorem tX7_way_43 {r : Int32} {σ' : Sg} (C : Cx E p s m args meth c RX7 cX7_way 6) (hr : meth.sig.returnType = (some .int)) : ∀ (n : Nat) (l0 : Nat) (l2 : Int32) (l3 : Int32) (l4 : Int32) (l5 : Int32) (σ : Sg) (h : DX7_way_43 n l0 l2 l3 l4 l5 σ = some (r, σ')), Y E p l e (rmA 2 0 0) s m args below meth c (some (.int r)) σ' 0 0 6 0 0 σ 43 [some (.ref (ad E l0)), none, some (.int l2), some (.int l3), some (.int l4), some (.int l5)] [] := by
  intro n
  induction n with
  | zero => intro l0 l2 l3 l4 l5 σ h; cases h
  | succ n ih =>
    intro l0 l2 l3 l4 l5 σ h
    unfold DX7_way_43 at h
    refine x_iload (pc := 43) C dX7_way_43 rfl ?_
    refine x_bipush (v := 12) (pc := 45) C dX7_way_45 (by decide) ?_
    refine x_icmp_ge (pc := 47) (tgt := 86) C dX7_way_47 (by decide) (fun q => ?_) (fun q => ?_)
    · rw [if_pos q] at h
      exact x_sub (tX7_way_86 C hr h) (xLe_n (xLe_n (xLe_n (xLe_n (xLe_n (xLe_n xLe_0))))))
    · rw [if_neg q] at h
      refine x_iload (pc := 50) C dX7_way_50 rfl ?_
      refine x_iload_n (pc := 52) C dX7_way_52 rfl rfl ?_
      refine x_icmp_ne (pc := 53) (tgt := 59) C dX7_way_53 (by decide) (fun q => ?_) (fun q => ?_)
      · rw [if_pos q] at h
        exact x_sub (tX7_way_56 C hr h) (xLe_n (xLe_n (xLe_n (xLe_n (xLe_s (xLe_n xLe_0))))))
      · rw [if_neg q] at h
        refine x_aload_n (pc := 59) C dX7_way_59 rfl rfl ?_
        obtain ⟨k, h⟩ := chk_s h
        have k2 := k
        obtain ⟨k, h⟩ := chk_s h
        refine x_getR (pc := 60) C fX7_20 rfl k2 k dX7_way_60 ?_
        refine x_iload (pc := 63) C dX7_way_63 rfl ?_
        refine x_iload_n (pc := 65) C dX7_way_65 rfl rfl ?_
        obtain ⟨k, h⟩ := chk_s h
        have k2 := k
        obtain ⟨v1, σ2, k, h⟩ := bnd_s h
        refine x_callV1 (pc := 66) C (mX1_nextOnWay E l k) cl0 k2 cX7_122 nX1_nextOnWay sX1_nextOnWay rfl rfl (Nat.le_of_ble_eq_true rfl) ⟨Nat.le_of_ble_eq_true rfl, Nat.le_of_ble_eq_true rfl, Nat.le_of_ble_eq_true rfl, Nat.le_of_ble_eq_true rfl⟩ dX7_way_66 ?_
        refine x_istore (M := [some _, none, some _, some _, some _, some _]) (pc := 69) C dX7_way_69 (by decide) rfl ?_
        refine x_iload (pc := 71) C dX7_way_71 rfl ?_
        refine x_iconst (v := -1) (pc := 73) C dX7_way_73 (by decide) ?_
        refine x_icmp_ne (pc := 74) (tgt := 80) C dX7_way_74 (by decide) (fun q => ?_) (fun q => ?_)
        · rw [if_pos q] at h
          exact x_sub (tX7_way_77 C hr h) (xLe_n (xLe_n (xLe_n (xLe_n (xLe_n (xLe_n xLe_0))))))
        · rw [if_neg q] at h
          refine x_iinc (v := 1) (M := [some _, none, some _, some _, some _, some _]) (pc := 80) C dX7_way_80 rfl (by decide) (by decide) rfl ?_
          refine x_goto (tgt := 43) (pc := 83) C dX7_way_83 (by decide) ?_
          exact x_sub (ih _ _ _ _ _ _ h) (xLe_s (xLe_n (xLe_s (xLe_s (xLe_s (xLe_s xLe_0))))))
def DX7_way (l0 : Nat) (l1 : Int32) (l2 : Int32) (l3 : Int32) (σ : Sg) : Option (Int32 × Sg) :=
  chk (ckO σ 5 l0) <|
  bnd (DX7_isPlace l0 l1 σ) fun v1 σ2 =>
  if v1 = 0 then
    DX7_way_20 σ2
  else
    chk (ckO σ2 5 l0) <|
    bnd (DX7_isPlace l0 l2 σ2) fun v3 σ4 =>
    if v3 = 0 then
      DX7_way_20 σ4
    else
      if 0 ≤ l3 then
        chk (ckO σ4 5 l0) <|
        chk (ckV (gR σ4 l0 2)) <|
        chk (ckO σ4 0 (gR σ4 l0 2)) <|
        bnd (DX1_hasWay (gR σ4 l0 2) l1 l2 σ4) fun v5 σ6 =>
        if v5 = 0 then
          some ((-2 : Int32), σ6)
        else
          DX7_way_43 FU l0 l2 l3 l1 (0 : Int32) σ6
      else
        DX7_way_20 σ4
theorem mX7_way (E : Ev) (l : Launch) {l0 : Nat} {l1 : Int32} {l2 : Int32} {l3 : Int32} {σ : Sg} {r : Int32} {σ' : Sg} (h : DX7_way l0 l1 l2 l3 σ = some (r, σ')) : Mt E l yX7_way cX7_way 6 (some .int) 2 0 0 [.ref (ad E l0), .int l1, .int l2, .int l3] σ (some (.int r)) σ' := by
  refine Mt.ofX (by decide) (Nat.le_of_ble_eq_true rfl) (L0 := [some (.ref (ad E l0)), some (.int l1), some (.int l2), some (.int l3), none, none]) (xEntN_ok [.ref (ad E l0), .int l1, .int l2, .int l3] 6) (fun p e s m args below meth c C hr hn => ?_)
  unfold DX7_way at h
  refine x_aload_n (pc := 0) C dX7_way_0 rfl rfl ?_
  refine x_iload_n (pc := 1) C dX7_way_1 rfl rfl ?_
  obtain ⟨k, h⟩ := chk_s h
  have k2 := k
  obtain ⟨v1, σ2, k, h⟩ := bnd_s h
  refine x_callV1 (pc := 2) C (mX7_isPlace E l k) cl5 k2 cX7_111 nX7_isPlace sX7_isPlace rfl rfl (Nat.le_of_ble_eq_true rfl) ⟨Nat.le_of_ble_eq_true rfl, Nat.le_of_ble_eq_true rfl, Nat.le_of_ble_eq_true rfl, Nat.le_of_ble_eq_true rfl⟩ dX7_way_2 ?_
  refine x_if_eq (pc := 5) (tgt := 20) C dX7_way_5 (by decide) (fun q => ?_) (fun q => ?_)
  · rw [if_pos q] at h
    exact x_sub (tX7_way_20 C hr h) (xLe_n (xLe_n (xLe_n (xLe_n (xLe_n (xLe_n xLe_0))))))
  · rw [if_neg q] at h
    refine x_aload_n (pc := 8) C dX7_way_8 rfl rfl ?_
    refine x_iload_n (pc := 9) C dX7_way_9 rfl rfl ?_
    obtain ⟨k, h⟩ := chk_s h
    have k2 := k
    obtain ⟨v3, σ4, k, h⟩ := bnd_s h
    refine x_callV1 (pc := 10) C (mX7_isPlace E l k) cl5 k2 cX7_111 nX7_isPlace sX7_isPlace rfl rfl (Nat.le_of_ble_eq_true rfl) ⟨Nat.le_of_ble_eq_true rfl, Nat.le_of_ble_eq_true rfl, Nat.le_of_ble_eq_true rfl, Nat.le_of_ble_eq_true rfl⟩ dX7_way_10 ?_
    refine x_if_eq (pc := 13) (tgt := 20) C dX7_way_13 (by decide) (fun q => ?_) (fun q => ?_)
    · rw [if_pos q] at h
      exact x_sub (tX7_way_20 C hr h) (xLe_n (xLe_n (xLe_n (xLe_n (xLe_n (xLe_n xLe_0))))))
    · rw [if_neg q] at h
      refine x_iload_n (pc := 16) C dX7_way_16 rfl rfl ?_
      refine x_if_ge (pc := 17) (tgt := 22) C dX7_way_17 (by decide) (fun q => ?_) (fun q => ?_)
      · rw [if_pos q] at h
        refine x_aload_n (pc := 22) C dX7_way_22 rfl rfl ?_
        obtain ⟨k, h⟩ := chk_s h
        have k2 := k
        obtain ⟨k, h⟩ := chk_s h
        refine x_getR (pc := 23) C fX7_20 rfl k2 k dX7_way_23 ?_
        refine x_iload_n (pc := 26) C dX7_way_26 rfl rfl ?_
        refine x_iload_n (pc := 27) C dX7_way_27 rfl rfl ?_
        obtain ⟨k, h⟩ := chk_s h
        have k2 := k
        obtain ⟨v5, σ6, k, h⟩ := bnd_s h
        refine x_callV1 (pc := 28) C (mX1_hasWay E l k) cl0 k2 cX7_114 nX1_hasWay sX1_hasWay rfl rfl (Nat.le_of_ble_eq_true rfl) ⟨Nat.le_of_ble_eq_true rfl, Nat.le_of_ble_eq_true rfl, Nat.le_of_ble_eq_true rfl, Nat.le_of_ble_eq_true rfl⟩ dX7_way_28 ?_
        refine x_if_ne (pc := 31) (tgt := 37) C dX7_way_31 (by decide) (fun q => ?_) (fun q => ?_)
        · rw [if_pos q] at h
          refine x_bipush (v := -2) (pc := 34) C dX7_way_34 (by decide) ?_
          cases h
          exact x_iret C hr dX7_way_36
        · rw [if_neg q] at h
          refine x_iload_n (pc := 37) C dX7_way_37 rfl rfl ?_
          refine x_istore (M := [some _, some _, some _, some _, some _, none]) (pc := 38) C dX7_way_38 (by decide) rfl ?_
          refine x_iconst (v := 0) (pc := 40) C dX7_way_40 (by decide) ?_
          refine x_istore (M := [some _, some _, some _, some _, some _, some _]) (pc := 41) C dX7_way_41 (by decide) rfl ?_
          exact x_sub (tX7_way_43 C hr FU _ _ _ _ _ _ h) (xLe_s (xLe_n (xLe_s (xLe_s (xLe_s (xLe_s xLe_0))))))
      · rw [if_neg q] at h
        exact x_sub (tX7_way_20 C hr h) (xLe_n (xLe_n (xLe_n (xLe_n (xLe_n (xLe_n xLe_0))))))
def DX7_weight_11 (σ : Sg) : Option (Int32 × Sg) :=
  some ((-1 : Int32), σ)
theorem tX7_weight_11 {r : Int32} {σ' : Sg} (C : Cx E p s m args meth c RX7 cX7_weight 2) (hr : meth.sig.returnType = (some .int)) {σ : Sg} (h : DX7_weight_11  σ = some (r, σ')) : Y E p l e (rmA 2 0 0) s m args below meth c (some (.int r)) σ' 0 0 2 0 0 σ 11 [none, none] [] := by
  unfold DX7_weight_11 at h
  refine x_iconst (v := -1) (pc := 11) C dX7_weight_11 (by decide) ?_
  cases h
  exact x_iret C hr dX7_weight_12
def DX7_weight (l0 : Nat) (l1 : Int32) (σ : Sg) : Option (Int32 × Sg) :=
  if l1 < (1 : Int32) then
    DX7_weight_11 σ
  else
    if l1 ≤ (200000 : Int32) then
      chk (ckO σ 5 l0) <|
      chk (ckV (gR σ l0 2)) <|
      chk (ckO σ 0 (gR σ l0 2)) <|
      bnd (DX1_weightOf (gR σ l0 2) l1 σ) fun v1 σ2 =>
      some (v1, σ2)
    else
      DX7_weight_11 σ
theorem mX7_weight (E : Ev) (l : Launch) {l0 : Nat} {l1 : Int32} {σ : Sg} {r : Int32} {σ' : Sg} (h : DX7_weight l0 l1 σ = some (r, σ')) : Mt E l yX7_weight cX7_weight 2 (some .int) 2 0 0 [.ref (ad E l0), .int l1] σ (some (.int r)) σ' := by
  refine Mt.ofX (by decide) (Nat.le_of_ble_eq_true rfl) (L0 := [some (.ref (ad E l0)), some (.int l1)]) (xEntN_ok [.ref (ad E l0), .int l1] 2) (fun p e s m args below meth c C hr hn => ?_)
  unfold DX7_weight at h
  refine x_iload_n (pc := 0) C dX7_weight_0 rfl rfl ?_
  refine x_iconst (v := 1) (pc := 1) C dX7_weight_1 (by decide) ?_
  refine x_icmp_lt (pc := 2) (tgt := 11) C dX7_weight_2 (by decide) (fun q => ?_) (fun q => ?_)
  · rw [if_pos q] at h
    exact x_sub (tX7_weight_11 C hr h) (xLe_n (xLe_n xLe_0))
  · rw [if_neg q] at h
    refine x_iload_n (pc := 5) C dX7_weight_5 rfl rfl ?_
    refine x_ldc (pc := 6) C kX7_126 dX7_weight_6 ?_
    refine x_icmp_le (pc := 8) (tgt := 13) C dX7_weight_8 (by decide) (fun q => ?_) (fun q => ?_)
    · rw [if_pos q] at h
      refine x_aload_n (pc := 13) C dX7_weight_13 rfl rfl ?_
      obtain ⟨k, h⟩ := chk_s h
      have k2 := k
      obtain ⟨k, h⟩ := chk_s h
      refine x_getR (pc := 14) C fX7_20 rfl k2 k dX7_weight_14 ?_
      refine x_iload_n (pc := 17) C dX7_weight_17 rfl rfl ?_
      obtain ⟨k, h⟩ := chk_s h
      have k2 := k
      obtain ⟨v1, σ2, k, h⟩ := bnd_s h
      refine x_callV1 (pc := 18) C (mX1_weightOf E l k) cl0 k2 cX7_127 nX1_weightOf sX1_weightOf rfl rfl (Nat.le_of_ble_eq_true rfl) ⟨Nat.le_of_ble_eq_true rfl, Nat.le_of_ble_eq_true rfl, Nat.le_of_ble_eq_true rfl, Nat.le_of_ble_eq_true rfl⟩ dX7_weight_18 ?_
      cases h
      exact x_iret C hr dX7_weight_21
    · rw [if_neg q] at h
      exact x_sub (tX7_weight_11 C hr h) (xLe_n (xLe_n xLe_0))
def DX7_base_29 (σ : Sg) : Option (Int32 × Sg) :=
  some ((-1 : Int32), σ)
theorem tX7_base_29 {r : Int32} {σ' : Sg} (C : Cx E p s m args meth c RX7 cX7_base 5) (hr : meth.sig.returnType = (some .int)) {σ : Sg} (h : DX7_base_29  σ = some (r, σ')) : Y E p l e (rmA 3 0 0) s m args below meth c (some (.int r)) σ' 0 0 5 0 0 σ 29 [none, none, none, none, none] [] := by
  unfold DX7_base_29 at h
  refine x_iconst (v := -1) (pc := 29) C dX7_base_29 (by decide) ?_
  cases h
  exact x_iret C hr dX7_base_30
def DX7_base_56 (s0 : Int32) (σ : Sg) : Option (Int32 × Sg) :=
  some (s0, σ)
theorem tX7_base_56 {r : Int32} {σ' : Sg} (C : Cx E p s m args meth c RX7 cX7_base 5) (hr : meth.sig.returnType = (some .int)) {s0 : Int32} {σ : Sg} (h : DX7_base_56 s0 σ = some (r, σ')) : Y E p l e (rmA 3 0 0) s m args below meth c (some (.int r)) σ' 0 0 5 0 0 σ 56 [none, none, none, none, none] [.int s0] := by
  unfold DX7_base_56 at h
  cases h
  exact x_iret C hr dX7_base_56
def DX7_base (l0 : Nat) (l1 : Int32) (l2 : Int32) (l3 : Int32) (σ : Sg) : Option (Int32 × Sg) :=
  chk (ckO σ 5 l0) <|
  bnd (DX7_isCarrier l0 l1 σ) fun v1 σ2 =>
  if v1 = 0 then
    DX7_base_29 σ2
  else
    chk (ckO σ2 5 l0) <|
    bnd (DX7_isPlace l0 l2 σ2) fun v3 σ4 =>
    if v3 = 0 then
      DX7_base_29 σ4
    else
      chk (ckO σ4 5 l0) <|
      bnd (DX7_isPlace l0 l3 σ4) fun v5 σ6 =>
      if v5 = 0 then
        DX7_base_29 σ6
      else
        if l2 = l3 then
          DX7_base_29 σ6
        else
          chk (ckO σ6 5 l0) <|
          chk (ckV (gR σ6 l0 2)) <|
          chk (ckO σ6 0 (gR σ6 l0 2)) <|
          bnd (DX1_baseOf (gR σ6 l0 2) l1 l2 l3 σ6) fun v7 σ8 =>
          if v7 = (-1 : Int32) then
            DX7_base_56 (-2 : Int32) σ8
          else
            DX7_base_56 v7 σ8
theorem mX7_base (E : Ev) (l : Launch) {l0 : Nat} {l1 : Int32} {l2 : Int32} {l3 : Int32} {σ : Sg} {r : Int32} {σ' : Sg} (h : DX7_base l0 l1 l2 l3 σ = some (r, σ')) : Mt E l yX7_base cX7_base 5 (some .int) 3 0 0 [.ref (ad E l0), .int l1, .int l2, .int l3] σ (some (.int r)) σ' := by
  refine Mt.ofX (by decide) (Nat.le_of_ble_eq_true rfl) (L0 := [some (.ref (ad E l0)), some (.int l1), some (.int l2), some (.int l3), none]) (xEntN_ok [.ref (ad E l0), .int l1, .int l2, .int l3] 5) (fun p e s m args below meth c C hr hn => ?_)
  unfold DX7_base at h
  refine x_aload_n (pc := 0) C dX7_base_0 rfl rfl ?_
  refine x_iload_n (pc := 1) C dX7_base_1 rfl rfl ?_
  obtain ⟨k, h⟩ := chk_s h
  have k2 := k
  obtain ⟨v1, σ2, k, h⟩ := bnd_s h
  refine x_callV1 (pc := 2) C (mX7_isCarrier E l k) cl5 k2 cX7_130 nX7_isCarrier sX7_isCarrier rfl rfl (Nat.le_of_ble_eq_true rfl) ⟨Nat.le_of_ble_eq_true rfl, Nat.le_of_ble_eq_true rfl, Nat.le_of_ble_eq_true rfl, Nat.le_of_ble_eq_true rfl⟩ dX7_base_2 ?_
  refine x_if_eq (pc := 5) (tgt := 29) C dX7_base_5 (by decide) (fun q => ?_) (fun q => ?_)
  · rw [if_pos q] at h
    exact x_sub (tX7_base_29 C hr h) (xLe_n (xLe_n (xLe_n (xLe_n (xLe_n xLe_0)))))
  · rw [if_neg q] at h
    refine x_aload_n (pc := 8) C dX7_base_8 rfl rfl ?_
    refine x_iload_n (pc := 9) C dX7_base_9 rfl rfl ?_
    obtain ⟨k, h⟩ := chk_s h
    have k2 := k
    obtain ⟨v3, σ4, k, h⟩ := bnd_s h
    refine x_callV1 (pc := 10) C (mX7_isPlace E l k) cl5 k2 cX7_111 nX7_isPlace sX7_isPlace rfl rfl (Nat.le_of_ble_eq_true rfl) ⟨Nat.le_of_ble_eq_true rfl, Nat.le_of_ble_eq_true rfl, Nat.le_of_ble_eq_true rfl, Nat.le_of_ble_eq_true rfl⟩ dX7_base_10 ?_
    refine x_if_eq (pc := 13) (tgt := 29) C dX7_base_13 (by decide) (fun q => ?_) (fun q => ?_)
    · rw [if_pos q] at h
      exact x_sub (tX7_base_29 C hr h) (xLe_n (xLe_n (xLe_n (xLe_n (xLe_n xLe_0)))))
    · rw [if_neg q] at h
      refine x_aload_n (pc := 16) C dX7_base_16 rfl rfl ?_
      refine x_iload_n (pc := 17) C dX7_base_17 rfl rfl ?_
      obtain ⟨k, h⟩ := chk_s h
      have k2 := k
      obtain ⟨v5, σ6, k, h⟩ := bnd_s h
      refine x_callV1 (pc := 18) C (mX7_isPlace E l k) cl5 k2 cX7_111 nX7_isPlace sX7_isPlace rfl rfl (Nat.le_of_ble_eq_true rfl) ⟨Nat.le_of_ble_eq_true rfl, Nat.le_of_ble_eq_true rfl, Nat.le_of_ble_eq_true rfl, Nat.le_of_ble_eq_true rfl⟩ dX7_base_18 ?_
      refine x_if_eq (pc := 21) (tgt := 29) C dX7_base_21 (by decide) (fun q => ?_) (fun q => ?_)
      · rw [if_pos q] at h
        exact x_sub (tX7_base_29 C hr h) (xLe_n (xLe_n (xLe_n (xLe_n (xLe_n xLe_0)))))
      · rw [if_neg q] at h
        refine x_iload_n (pc := 24) C dX7_base_24 rfl rfl ?_
        refine x_iload_n (pc := 25) C dX7_base_25 rfl rfl ?_
        refine x_icmp_ne (pc := 26) (tgt := 31) C dX7_base_26 (by decide) (fun q => ?_) (fun q => ?_)
        · rw [if_pos q] at h
          exact x_sub (tX7_base_29 C hr h) (xLe_n (xLe_n (xLe_n (xLe_n (xLe_n xLe_0)))))
        · rw [if_neg q] at h
          refine x_aload_n (pc := 31) C dX7_base_31 rfl rfl ?_
          obtain ⟨k, h⟩ := chk_s h
          have k2 := k
          obtain ⟨k, h⟩ := chk_s h
          refine x_getR (pc := 32) C fX7_20 rfl k2 k dX7_base_32 ?_
          refine x_iload_n (pc := 35) C dX7_base_35 rfl rfl ?_
          refine x_iload_n (pc := 36) C dX7_base_36 rfl rfl ?_
          refine x_iload_n (pc := 37) C dX7_base_37 rfl rfl ?_
          obtain ⟨k, h⟩ := chk_s h
          have k2 := k
          obtain ⟨v7, σ8, k, h⟩ := bnd_s h
          refine x_callV1 (pc := 38) C (mX1_baseOf E l k) cl0 k2 cX7_133 nX1_baseOf sX1_baseOf rfl rfl (Nat.le_of_ble_eq_true rfl) ⟨Nat.le_of_ble_eq_true rfl, Nat.le_of_ble_eq_true rfl, Nat.le_of_ble_eq_true rfl, Nat.le_of_ble_eq_true rfl⟩ dX7_base_38 ?_
          refine x_istore (M := [some _, some _, some _, some _, some _]) (pc := 41) C dX7_base_41 (by decide) rfl ?_
          refine x_iload (pc := 43) C dX7_base_43 rfl ?_
          refine x_iconst (v := -1) (pc := 45) C dX7_base_45 (by decide) ?_
          refine x_icmp_ne (pc := 46) (tgt := 54) C dX7_base_46 (by decide) (fun q => ?_) (fun q => ?_)
          · rw [if_pos q] at h
            refine x_bipush (v := -2) (pc := 49) C dX7_base_49 (by decide) ?_
            refine x_goto (tgt := 56) (pc := 51) C dX7_base_51 (by decide) ?_
            exact x_sub (tX7_base_56 C hr h) (xLe_n (xLe_n (xLe_n (xLe_n (xLe_n xLe_0)))))
          · rw [if_neg q] at h
            refine x_iload (pc := 54) C dX7_base_54 rfl ?_
            exact x_sub (tX7_base_56 C hr h) (xLe_n (xLe_n (xLe_n (xLe_n (xLe_n xLe_0)))))
def DX7_prorateNow (l0 : Nat) (l1 : Int32) (σ : Sg) : Option (Unit × Sg) :=
  chk (ckO σ 5 l0) <|
  chk (ckV (gR σ l0 6)) <|
  chk (ckO σ 5 l0) <|
  chk (ckV (gR σ l0 2)) <|
  chk (ckO σ 5 l0) <|
  chk (ckV (gR σ l0 5)) <|
  chk (ckO σ 4 (gR σ l0 6)) <|
  bnd (DX5_take (gR σ l0 6) (gR σ l0 2) (gR σ l0 5) l1 σ) fun _ σ1 =>
  chk (ckO σ1 5 l0) <|
  chk (ckV (gR σ1 l0 6)) <|
  chk (ckO σ1 4 (gR σ1 l0 6)) <|
  bnd (DX5_prorate (gR σ1 l0 6) σ1) fun _ σ2 =>
  some ((), σ2)
theorem mX7_prorateNow (E : Ev) (l : Launch) {l0 : Nat} {l1 : Int32} {σ : Sg} {r : Unit} {σ' : Sg} (h : DX7_prorateNow l0 l1 σ = some (r, σ')) : Mt E l yX7_prorateNow cX7_prorateNow 2 none 5 0 0 [.ref (ad E l0), .int l1] σ none σ' := by
  refine Mt.ofX (by decide) (Nat.le_of_ble_eq_true rfl) (L0 := [some (.ref (ad E l0)), some (.int l1)]) (xEntN_ok [.ref (ad E l0), .int l1] 2) (fun p e s m args below meth c C hr hn => ?_)
  unfold DX7_prorateNow at h
  refine x_aload_n (pc := 0) C dX7_prorateNow_0 rfl rfl ?_
  obtain ⟨k, h⟩ := chk_s h
  have k2 := k
  obtain ⟨k, h⟩ := chk_s h
  refine x_getR (pc := 1) C fX7_48 rfl k2 k dX7_prorateNow_1 ?_
  refine x_aload_n (pc := 4) C dX7_prorateNow_4 rfl rfl ?_
  obtain ⟨k, h⟩ := chk_s h
  have k2 := k
  obtain ⟨k, h⟩ := chk_s h
  refine x_getR (pc := 5) C fX7_20 rfl k2 k dX7_prorateNow_5 ?_
  refine x_aload_n (pc := 8) C dX7_prorateNow_8 rfl rfl ?_
  obtain ⟨k, h⟩ := chk_s h
  have k2 := k
  obtain ⟨k, h⟩ := chk_s h
  refine x_getR (pc := 9) C fX7_39 rfl k2 k dX7_prorateNow_9 ?_
  refine x_iload_n (pc := 12) C dX7_prorateNow_12 rfl rfl ?_
  obtain ⟨k, h⟩ := chk_s h
  have k2 := k
  obtain ⟨u0, σ1, k, h⟩ := bnd_s h
  refine x_callV0 (pc := 13) C (mX5_take E l k) cl4 k2 cX7_212 nX5_take sX5_take rfl rfl (Nat.le_of_ble_eq_true rfl) ⟨Nat.le_of_ble_eq_true rfl, Nat.le_of_ble_eq_true rfl, Nat.le_of_ble_eq_true rfl, Nat.le_of_ble_eq_true rfl⟩ dX7_prorateNow_13 ?_
  refine x_aload_n (pc := 16) C dX7_prorateNow_16 rfl rfl ?_
  obtain ⟨k, h⟩ := chk_s h
  have k2 := k
  obtain ⟨k, h⟩ := chk_s h
  refine x_getR (pc := 17) C fX7_48 rfl k2 k dX7_prorateNow_17 ?_
  obtain ⟨k, h⟩ := chk_s h
  have k2 := k
  obtain ⟨u0, σ2, k, h⟩ := bnd_s h
  refine x_callV0 (pc := 20) C (mX5_prorate E l k) cl4 k2 cX7_216 nX5_prorate sX5_prorate rfl rfl (Nat.le_of_ble_eq_true rfl) ⟨Nat.le_of_ble_eq_true rfl, Nat.le_of_ble_eq_true rfl, Nat.le_of_ble_eq_true rfl, Nat.le_of_ble_eq_true rfl⟩ dX7_prorateNow_20 ?_
  cases h
  exact x_vret C hr dX7_prorateNow_23
def DX7_timesHeld_52 (K4 : Nat → Int32 → Int32 → Int32 → Sg → Option (Int32 × Sg)) (K23 : Nat → Int32 → Int32 → Int32 → Int32 → Sg → Option (Int32 × Sg)) (l0 : Nat) (l1 : Int32) (l2 : Int32) (l3 : Int32) (l4 : Int32) (σ : Sg) : Option (Int32 × Sg) :=
  K23 l0 l1 l2 l3 (l4 + (1 : Int32)) σ
theorem tX7_timesHeld_52 {r : Int32} {σ' : Sg} (C : Cx E p s m args meth c RX7 cX7_timesHeld 5) (hr : meth.sig.returnType = (some .int)) {K4 : Nat → Int32 → Int32 → Int32 → Sg → Option (Int32 × Sg)} (hK4 : ∀ (l0 : Nat) (l1 : Int32) (l2 : Int32) (l3 : Int32) (σ : Sg), K4 l0 l1 l2 l3 σ = some (r, σ') → Y E p l e (rmA 6 0 0) s m args below meth c (some (.int r)) σ' 0 0 5 0 0 σ 4 [some (.ref (ad E l0)), some (.int l1), some (.int l2), some (.int l3), none] []) {K23 : Nat → Int32 → Int32 → Int32 → Int32 → Sg → Option (Int32 × Sg)} (hK23 : ∀ (l0 : Nat) (l1 : Int32) (l2 : Int32) (l3 : Int32) (l4 : Int32) (σ : Sg), K23 l0 l1 l2 l3 l4 σ = some (r, σ') → Y E p l e (rmA 6 0 0) s m args below meth c (some (.int r)) σ' 0 0 5 0 0 σ 23 [some (.ref (ad E l0)), some (.int l1), some (.int l2), some (.int l3), some (.int l4)] []) {l0 : Nat} {l1 : Int32} {l2 : Int32} {l3 : Int32} {l4 : Int32} {σ : Sg} (h : DX7_timesHeld_52 K4 K23 l0 l1 l2 l3 l4 σ = some (r, σ')) : Y E p l e (rmA 6 0 0) s m args below meth c (some (.int r)) σ' 0 0 5 0 0 σ 52 [some (.ref (ad E l0)), some (.int l1), some (.int l2), some (.int l3), some (.int l4)] [] := by
  unfold DX7_timesHeld_52 at h
  refine x_iinc (v := 1) (M := [some _, some _, some _, some _, some _]) (pc := 52) C dX7_timesHeld_52 rfl (by decide) (by decide) rfl ?_
  refine x_goto (tgt := 23) (pc := 55) C dX7_timesHeld_55 (by decide) ?_
  exact x_sub (hK23 _ _ _ _ _ _ h) (xLe_s (xLe_s (xLe_s (xLe_s (xLe_s xLe_0)))))
def DX7_timesHeld_58 (K4 : Nat → Int32 → Int32 → Int32 → Sg → Option (Int32 × Sg)) (l0 : Nat) (l1 : Int32) (l2 : Int32) (l3 : Int32) (σ : Sg) : Option (Int32 × Sg) :=
  K4 l0 l1 l2 (l3 + (1 : Int32)) σ
theorem tX7_timesHeld_58 {r : Int32} {σ' : Sg} (C : Cx E p s m args meth c RX7 cX7_timesHeld 5) (hr : meth.sig.returnType = (some .int)) {K4 : Nat → Int32 → Int32 → Int32 → Sg → Option (Int32 × Sg)} (hK4 : ∀ (l0 : Nat) (l1 : Int32) (l2 : Int32) (l3 : Int32) (σ : Sg), K4 l0 l1 l2 l3 σ = some (r, σ') → Y E p l e (rmA 6 0 0) s m args below meth c (some (.int r)) σ' 0 0 5 0 0 σ 4 [some (.ref (ad E l0)), some (.int l1), some (.int l2), some (.int l3), none] []) {l0 : Nat} {l1 : Int32} {l2 : Int32} {l3 : Int32} {σ : Sg} (h : DX7_timesHeld_58 K4 l0 l1 l2 l3 σ = some (r, σ')) : Y E p l e (rmA 6 0 0) s m args below meth c (some (.int r)) σ' 0 0 5 0 0 σ 58 [some (.ref (ad E l0)), some (.int l1), some (.int l2), some (.int l3), none] [] := by
  unfold DX7_timesHeld_58 at h
  refine x_iinc (v := 1) (M := [some _, some _, some _, some _, none]) (pc := 58) C dX7_timesHeld_58 rfl (by decide) (by decide) rfl ?_
  refine x_goto (tgt := 4) (pc := 61) C dX7_timesHeld_61 (by decide) ?_
  exact x_sub (hK4 _ _ _ _ _ h) (xLe_s (xLe_s (xLe_s (xLe_s (xLe_n xLe_0)))))
def DX7_timesHeld_23 (K4 : Nat → Int32 → Int32 → Int32 → Sg → Option (Int32 × Sg)) : Nat → Nat → Int32 → Int32 → Int32 → Int32 → Sg → Option (Int32 × Sg)
  | 0, _, _, _, _, _, _ => none
  | n + 1, l0, l1, l2, l3, l4, σ =>
    chk (ckO σ 5 l0) <|
    chk (ckV (gR σ l0 6)) <|
    chk (ckO σ 4 (gR σ l0 6)) <|
    if (gI σ (gR σ l0 6) 2) ≤ l4 then
      DX7_timesHeld_58 K4 l0 l1 l2 l3 σ
    else
      chk (ckO σ 5 l0) <|
      chk (ckV (gR σ l0 6)) <|
      chk (ckO σ 4 (gR σ l0 6)) <|
      chk (ckV (gR σ (gR σ l0 6) 7)) <|
      chk (ckI σ (gR σ (gR σ l0 6) 7) l4) <|
      if (aI σ (gR σ (gR σ l0 6) 7) l4.toNatClampNeg) = l1 then
        DX7_timesHeld_52 K4 (DX7_timesHeld_23 K4 n) l0 l1 (l2 + (1 : Int32)) l3 l4 σ
      else
        DX7_timesHeld_52 K4 (DX7_timesHeld_23 K4 n) l0 l1 l2 l3 l4 σ
theorem tX7_timesHeld_23 {r : Int32} {σ' : Sg} (C : Cx E p s m args meth c RX7 cX7_timesHeld 5) (hr : meth.sig.returnType = (some .int)) {K4 : Nat → Int32 → Int32 → Int32 → Sg → Option (Int32 × Sg)} (hK4 : ∀ (l0 : Nat) (l1 : Int32) (l2 : Int32) (l3 : Int32) (σ : Sg), K4 l0 l1 l2 l3 σ = some (r, σ') → Y E p l e (rmA 6 0 0) s m args below meth c (some (.int r)) σ' 0 0 5 0 0 σ 4 [some (.ref (ad E l0)), some (.int l1), some (.int l2), some (.int l3), none] []) : ∀ (n : Nat) (l0 : Nat) (l1 : Int32) (l2 : Int32) (l3 : Int32) (l4 : Int32) (σ : Sg) (h : DX7_timesHeld_23 K4 n l0 l1 l2 l3 l4 σ = some (r, σ')), Y E p l e (rmA 6 0 0) s m args below meth c (some (.int r)) σ' 0 0 5 0 0 σ 23 [some (.ref (ad E l0)), some (.int l1), some (.int l2), some (.int l3), some (.int l4)] [] := by
  intro n
  induction n with
  | zero => intro l0 l1 l2 l3 l4 σ h; cases h
  | succ n ih =>
    intro l0 l1 l2 l3 l4 σ h
    unfold DX7_timesHeld_23 at h
    refine x_iload (pc := 23) C dX7_timesHeld_23 rfl ?_
    refine x_aload_n (pc := 25) C dX7_timesHeld_25 rfl rfl ?_
    obtain ⟨k, h⟩ := chk_s h
    have k2 := k
    obtain ⟨k, h⟩ := chk_s h
    refine x_getR (pc := 26) C fX7_48 rfl k2 k dX7_timesHeld_26 ?_
    obtain ⟨k, h⟩ := chk_s h
    refine x_getI (pc := 29) C fX7_161 rfl k dX7_timesHeld_29 ?_
    refine x_icmp_ge (pc := 32) (tgt := 58) C dX7_timesHeld_32 (by decide) (fun q => ?_) (fun q => ?_)
    · rw [if_pos q] at h
      exact x_sub (tX7_timesHeld_58 C hr hK4 h) (xLe_s (xLe_s (xLe_s (xLe_s (xLe_n xLe_0)))))
    · rw [if_neg q] at h
      refine x_aload_n (pc := 35) C dX7_timesHeld_35 rfl rfl ?_
      obtain ⟨k, h⟩ := chk_s h
      have k2 := k
      obtain ⟨k, h⟩ := chk_s h
      refine x_getR (pc := 36) C fX7_48 rfl k2 k dX7_timesHeld_36 ?_
      obtain ⟨k, h⟩ := chk_s h
      have k2 := k
      obtain ⟨k, h⟩ := chk_s h
      refine x_getR (pc := 39) C fX7_164 rfl k2 k dX7_timesHeld_39 ?_
      refine x_iload (pc := 42) C dX7_timesHeld_42 rfl ?_
      obtain ⟨k, h⟩ := chk_s h
      refine x_iald (pc := 44) C k dX7_timesHeld_44 ?_
      refine x_iload_n (pc := 45) C dX7_timesHeld_45 rfl rfl ?_
      refine x_icmp_ne (pc := 46) (tgt := 52) C dX7_timesHeld_46 (by decide) (fun q => ?_) (fun q => ?_)
      · rw [if_pos q] at h
        refine x_iinc (v := 1) (M := [some _, some _, some _, some _, some _]) (pc := 49) C dX7_timesHeld_49 rfl (by decide) (by decide) rfl ?_
        exact x_sub (tX7_timesHeld_52 C hr hK4 ih h) (xLe_s (xLe_s (xLe_s (xLe_s (xLe_s xLe_0)))))
      · rw [if_neg q] at h
        exact x_sub (tX7_timesHeld_52 C hr hK4 ih h) (xLe_s (xLe_s (xLe_s (xLe_s (xLe_s xLe_0)))))
def DX7_timesHeld_64 (l2 : Int32) (σ : Sg) : Option (Int32 × Sg) :=
  some (l2, σ)
theorem tX7_timesHeld_64 {r : Int32} {σ' : Sg} (C : Cx E p s m args meth c RX7 cX7_timesHeld 5) (hr : meth.sig.returnType = (some .int)) {l2 : Int32} {σ : Sg} (h : DX7_timesHeld_64 l2 σ = some (r, σ')) : Y E p l e (rmA 6 0 0) s m args below meth c (some (.int r)) σ' 0 0 5 0 0 σ 64 [none, none, some (.int l2), none, none] [] := by
  unfold DX7_timesHeld_64 at h
  refine x_iload_n (pc := 64) C dX7_timesHeld_64 rfl rfl ?_
  cases h
  exact x_iret C hr dX7_timesHeld_65
def DX7_timesHeld_4 : Nat → Nat → Int32 → Int32 → Int32 → Sg → Option (Int32 × Sg)
  | 0, _, _, _, _, _ => none
  | n + 1, l0, l1, l2, l3, σ =>
    chk (ckO σ 5 l0) <|
    chk (ckV (gR σ l0 2)) <|
    chk (ckO σ 0 (gR σ l0 2)) <|
    if (gI σ (gR σ l0 2) 9) ≤ l3 then
      DX7_timesHeld_64 l2 σ
    else
      chk (ckO σ 5 l0) <|
      bnd (DX7_prorateNow l0 l3 σ) fun _ σ1 =>
      DX7_timesHeld_23 (DX7_timesHeld_4 n) FU l0 l1 l2 l3 (0 : Int32) σ1
theorem tX7_timesHeld_4 {r : Int32} {σ' : Sg} (C : Cx E p s m args meth c RX7 cX7_timesHeld 5) (hr : meth.sig.returnType = (some .int)) : ∀ (n : Nat) (l0 : Nat) (l1 : Int32) (l2 : Int32) (l3 : Int32) (σ : Sg) (h : DX7_timesHeld_4 n l0 l1 l2 l3 σ = some (r, σ')), Y E p l e (rmA 6 0 0) s m args below meth c (some (.int r)) σ' 0 0 5 0 0 σ 4 [some (.ref (ad E l0)), some (.int l1), some (.int l2), some (.int l3), none] [] := by
  intro n
  induction n with
  | zero => intro l0 l1 l2 l3 σ h; cases h
  | succ n ih =>
    intro l0 l1 l2 l3 σ h
    unfold DX7_timesHeld_4 at h
    refine x_iload_n (pc := 4) C dX7_timesHeld_4 rfl rfl ?_
    refine x_aload_n (pc := 5) C dX7_timesHeld_5 rfl rfl ?_
    obtain ⟨k, h⟩ := chk_s h
    have k2 := k
    obtain ⟨k, h⟩ := chk_s h
    refine x_getR (pc := 6) C fX7_20 rfl k2 k dX7_timesHeld_6 ?_
    obtain ⟨k, h⟩ := chk_s h
    refine x_getI (pc := 9) C fX7_100 rfl k dX7_timesHeld_9 ?_
    refine x_icmp_ge (pc := 12) (tgt := 64) C dX7_timesHeld_12 (by decide) (fun q => ?_) (fun q => ?_)
    · rw [if_pos q] at h
      exact x_sub (tX7_timesHeld_64 C hr h) (xLe_n (xLe_n (xLe_s (xLe_n (xLe_n xLe_0)))))
    · rw [if_neg q] at h
      refine x_aload_n (pc := 15) C dX7_timesHeld_15 rfl rfl ?_
      refine x_iload_n (pc := 16) C dX7_timesHeld_16 rfl rfl ?_
      obtain ⟨k, h⟩ := chk_s h
      have k2 := k
      obtain ⟨u0, σ1, k, h⟩ := bnd_s h
      refine x_callV0 (pc := 17) C (mX7_prorateNow E l k) cl5 k2 cX7_158 nX7_prorateNow sX7_prorateNow rfl rfl (Nat.le_of_ble_eq_true rfl) ⟨Nat.le_of_ble_eq_true rfl, Nat.le_of_ble_eq_true rfl, Nat.le_of_ble_eq_true rfl, Nat.le_of_ble_eq_true rfl⟩ dX7_timesHeld_17 ?_
      refine x_iconst (v := 0) (pc := 20) C dX7_timesHeld_20 (by decide) ?_
      refine x_istore (M := [some _, some _, some _, some _, some _]) (pc := 21) C dX7_timesHeld_21 (by decide) rfl ?_
      exact x_sub (tX7_timesHeld_23 C hr ih FU _ _ _ _ _ _ h) (xLe_s (xLe_s (xLe_s (xLe_s (xLe_s xLe_0)))))
def DX7_timesHeld (l0 : Nat) (l1 : Int32) (σ : Sg) : Option (Int32 × Sg) :=
  DX7_timesHeld_4 FU l0 l1 (0 : Int32) (0 : Int32) σ
theorem mX7_timesHeld (E : Ev) (l : Launch) {l0 : Nat} {l1 : Int32} {σ : Sg} {r : Int32} {σ' : Sg} (h : DX7_timesHeld l0 l1 σ = some (r, σ')) : Mt E l yX7_timesHeld cX7_timesHeld 5 (some .int) 6 0 0 [.ref (ad E l0), .int l1] σ (some (.int r)) σ' := by
  refine Mt.ofX (by decide) (Nat.le_of_ble_eq_true rfl) (L0 := [some (.ref (ad E l0)), some (.int l1), none, none, none]) (xEntN_ok [.ref (ad E l0), .int l1] 5) (fun p e s m args below meth c C hr hn => ?_)
  unfold DX7_timesHeld at h
  refine x_iconst (v := 0) (pc := 0) C dX7_timesHeld_0 (by decide) ?_
  refine x_istore_n (M := [some _, some _, some _, none, none]) (pc := 1) C dX7_timesHeld_1 rfl (by decide) rfl ?_
  refine x_iconst (v := 0) (pc := 2) C dX7_timesHeld_2 (by decide) ?_
  refine x_istore_n (M := [some _, some _, some _, some _, none]) (pc := 3) C dX7_timesHeld_3 rfl (by decide) rfl ?_
  exact x_sub (tX7_timesHeld_4 C hr FU _ _ _ _ _ h) (xLe_s (xLe_s (xLe_s (xLe_s (xLe_n xLe_0)))))
def DX7_milesTogether_34 (l2 : Int32) (σ : Sg) : Option (Int32 × Sg) :=
  some (l2, σ)
theorem tX7_milesTogether_34 {r : Int32} {σ' : Sg} (C : Cx E p s m args meth c RX7 cX7_milesTogether 4) (hr : meth.sig.returnType = (some .int)) {l2 : Int32} {σ : Sg} (h : DX7_milesTogether_34 l2 σ = some (r, σ')) : Y E p l e (rmA 2 0 0) s m args below meth c (some (.int r)) σ' 0 0 4 0 0 σ 34 [none, none, some (.int l2), none] [] := by
  unfold DX7_milesTogether_34 at h
  refine x_iload_n (pc := 34) C dX7_milesTogether_34 rfl rfl ?_
  cases h
  exact x_iret C hr dX7_milesTogether_35
def DX7_milesTogether_4 : Nat → Nat → Int32 → Int32 → Int32 → Sg → Option (Int32 × Sg)
  | 0, _, _, _, _, _ => none
  | n + 1, l0, l1, l2, l3, σ =>
    chk (ckO σ 5 l0) <|
    chk (ckV (gR σ l0 2)) <|
    chk (ckO σ 0 (gR σ l0 2)) <|
    bnd (DX1_couponsOf (gR σ l0 2) l1 σ) fun v1 σ2 =>
    if v1 ≤ l3 then
      DX7_milesTogether_34 l2 σ2
    else
      chk (ckO σ2 5 l0) <|
      chk (ckV (gR σ2 l0 2)) <|
      chk (ckO σ2 0 (gR σ2 l0 2)) <|
      bnd (DX1_milesOf (gR σ2 l0 2) l1 l3 σ2) fun v3 σ4 =>
      DX7_milesTogether_4 n l0 l1 (l2 + v3) (l3 + (1 : Int32)) σ4
theorem tX7_milesTogether_4 {r : Int32} {σ' : Sg} (C : Cx E p s m args meth c RX7 cX7_milesTogether 4) (hr : meth.sig.returnType = (some .int)) : ∀ (n : Nat) (l0 : Nat) (l1 : Int32) (l2 : Int32) (l3 : Int32) (σ : Sg) (h : DX7_milesTogether_4 n l0 l1 l2 l3 σ = some (r, σ')), Y E p l e (rmA 2 0 0) s m args below meth c (some (.int r)) σ' 0 0 4 0 0 σ 4 [some (.ref (ad E l0)), some (.int l1), some (.int l2), some (.int l3)] [] := by
  intro n
  induction n with
  | zero => intro l0 l1 l2 l3 σ h; cases h
  | succ n ih =>
    intro l0 l1 l2 l3 σ h
    unfold DX7_milesTogether_4 at h
    refine x_iload_n (pc := 4) C dX7_milesTogether_4 rfl rfl ?_
    refine x_aload_n (pc := 5) C dX7_milesTogether_5 rfl rfl ?_
    obtain ⟨k, h⟩ := chk_s h
    have k2 := k
    obtain ⟨k, h⟩ := chk_s h
    refine x_getR (pc := 6) C fX7_20 rfl k2 k dX7_milesTogether_6 ?_
    refine x_iload_n (pc := 9) C dX7_milesTogether_9 rfl rfl ?_
    obtain ⟨k, h⟩ := chk_s h
    have k2 := k
    obtain ⟨v1, σ2, k, h⟩ := bnd_s h
    refine x_callV1 (pc := 10) C (mX1_couponsOf E l k) cl0 k2 cX7_107 nX1_couponsOf sX1_couponsOf rfl rfl (Nat.le_of_ble_eq_true rfl) ⟨Nat.le_of_ble_eq_true rfl, Nat.le_of_ble_eq_true rfl, Nat.le_of_ble_eq_true rfl, Nat.le_of_ble_eq_true rfl⟩ dX7_milesTogether_10 ?_
    refine x_icmp_ge (pc := 13) (tgt := 34) C dX7_milesTogether_13 (by decide) (fun q => ?_) (fun q => ?_)
    · rw [if_pos q] at h
      exact x_sub (tX7_milesTogether_34 C hr h) (xLe_n (xLe_n (xLe_s (xLe_n xLe_0))))
    · rw [if_neg q] at h
      refine x_iload_n (pc := 16) C dX7_milesTogether_16 rfl rfl ?_
      refine x_aload_n (pc := 17) C dX7_milesTogether_17 rfl rfl ?_
      obtain ⟨k, h⟩ := chk_s h
      have k2 := k
      obtain ⟨k, h⟩ := chk_s h
      refine x_getR (pc := 18) C fX7_20 rfl k2 k dX7_milesTogether_18 ?_
      refine x_iload_n (pc := 21) C dX7_milesTogether_21 rfl rfl ?_
      refine x_iload_n (pc := 22) C dX7_milesTogether_22 rfl rfl ?_
      obtain ⟨k, h⟩ := chk_s h
      have k2 := k
      obtain ⟨v3, σ4, k, h⟩ := bnd_s h
      refine x_callV1 (pc := 23) C (mX1_milesOf E l k) cl0 k2 cX7_191 nX1_milesOf sX1_milesOf rfl rfl (Nat.le_of_ble_eq_true rfl) ⟨Nat.le_of_ble_eq_true rfl, Nat.le_of_ble_eq_true rfl, Nat.le_of_ble_eq_true rfl, Nat.le_of_ble_eq_true rfl⟩ dX7_milesTogether_23 ?_
      refine x_iadd (pc := 26) C dX7_milesTogether_26 ?_
      refine x_istore_n (M := [some _, some _, some _, some _]) (pc := 27) C dX7_milesTogether_27 rfl (by decide) rfl ?_
      refine x_iinc (v := 1) (M := [some _, some _, some _, some _]) (pc := 28) C dX7_milesTogether_28 rfl (by decide) (by decide) rfl ?_
      refine x_goto (tgt := 4) (pc := 31) C dX7_milesTogether_31 (by decide) ?_
      exact x_sub (ih _ _ _ _ _ h) (xLe_s (xLe_s (xLe_s (xLe_s xLe_0))))
def DX7_milesTogether (l0 : Nat) (l1 : Int32) (σ : Sg) : Option (Int32 × Sg) :=
  DX7_milesTogether_4 FU l0 l1 (0 : Int32) (0 : Int32) σ
theorem mX7_milesTogether (E : Ev) (l : Launch) {l0 : Nat} {l1 : Int32} {σ : Sg} {r : Int32} {σ' : Sg} (h : DX7_milesTogether l0 l1 σ = some (r, σ')) : Mt E l yX7_milesTogether cX7_milesTogether 4 (some .int) 2 0 0 [.ref (ad E l0), .int l1] σ (some (.int r)) σ' := by
  refine Mt.ofX (by decide) (Nat.le_of_ble_eq_true rfl) (L0 := [some (.ref (ad E l0)), some (.int l1), none, none]) (xEntN_ok [.ref (ad E l0), .int l1] 4) (fun p e s m args below meth c C hr hn => ?_)
  unfold DX7_milesTogether at h
  refine x_iconst (v := 0) (pc := 0) C dX7_milesTogether_0 (by decide) ?_
  refine x_istore_n (M := [some _, some _, some _, none]) (pc := 1) C dX7_milesTogether_1 rfl (by decide) rfl ?_
  refine x_iconst (v := 0) (pc := 2) C dX7_milesTogether_2 (by decide) ?_
  refine x_istore_n (M := [some _, some _, some _, some _]) (pc := 3) C dX7_milesTogether_3 rfl (by decide) rfl ?_
  exact x_sub (tX7_milesTogether_4 C hr FU _ _ _ _ _ h) (xLe_s (xLe_s (xLe_s (xLe_s xLe_0))))
def DX7_flownTogether_37 (l2 : Int32) (σ : Sg) : Option (Int32 × Sg) :=
  some (l2, σ)
theorem tX7_flownTogether_37 {r : Int32} {σ' : Sg} (C : Cx E p s m args meth c RX7 cX7_flownTogether 4) (hr : meth.sig.returnType = (some .int)) {l2 : Int32} {σ : Sg} (h : DX7_flownTogether_37 l2 σ = some (r, σ')) : Y E p l e (rmA 1 0 0) s m args below meth c (some (.int r)) σ' 0 0 4 0 0 σ 37 [none, none, some (.int l2), none] [] := by
  unfold DX7_flownTogether_37 at h
  refine x_iload_n (pc := 37) C dX7_flownTogether_37 rfl rfl ?_
  cases h
  exact x_iret C hr dX7_flownTogether_38
def DX7_flownTogether_4 : Nat → Nat → Int32 → Int32 → Int32 → Sg → Option (Int32 × Sg)
  | 0, _, _, _, _, _ => none
  | n + 1, l0, l1, l2, l3, σ =>
    chk (ckO σ 5 l0) <|
    chk (ckV (gR σ l0 5)) <|
    chk (ckO σ 1 (gR σ l0 5)) <|
    chk (ckV (gR σ (gR σ l0 5) 1)) <|
    chk (ckI σ (gR σ (gR σ l0 5) 1) l1) <|
    if (aI σ (gR σ (gR σ l0 5) 1) l1.toNatClampNeg) ≤ l3 then
      DX7_flownTogether_37 l2 σ
    else
      chk (ckO σ 5 l0) <|
      chk (ckV (gR σ l0 5)) <|
      chk (ckO σ 1 (gR σ l0 5)) <|
      chk (ckV (gR σ (gR σ l0 5) 4)) <|
      chk (ckG σ (gR σ (gR σ l0 5) 4) l1) <|
      chk (ckR σ (gR σ (gR σ l0 5) 4) l1.toNatClampNeg l3) <|
      DX7_flownTogether_4 n l0 l1 (l2 + (aG σ (gR σ (gR σ l0 5) 4) l1.toNatClampNeg l3.toNatClampNeg)) (l3 + (1 : Int32)) σ
theorem tX7_flownTogether_4 {r : Int32} {σ' : Sg} (C : Cx E p s m args meth c RX7 cX7_flownTogether 4) (hr : meth.sig.returnType = (some .int)) : ∀ (n : Nat) (l0 : Nat) (l1 : Int32) (l2 : Int32) (l3 : Int32) (σ : Sg) (h : DX7_flownTogether_4 n l0 l1 l2 l3 σ = some (r, σ')), Y E p l e (rmA 1 0 0) s m args below meth c (some (.int r)) σ' 0 0 4 0 0 σ 4 [some (.ref (ad E l0)), some (.int l1), some (.int l2), some (.int l3)] [] := by
  intro n
  induction n with
  | zero => intro l0 l1 l2 l3 σ h; cases h
  | succ n ih =>
    intro l0 l1 l2 l3 σ h
    unfold DX7_flownTogether_4 at h
    refine x_iload_n (pc := 4) C dX7_flownTogether_4 rfl rfl ?_
    refine x_aload_n (pc := 5) C dX7_flownTogether_5 rfl rfl ?_
    obtain ⟨k, h⟩ := chk_s h
    have k2 := k
    obtain ⟨k, h⟩ := chk_s h
    refine x_getR (pc := 6) C fX7_39 rfl k2 k dX7_flownTogether_6 ?_
    obtain ⟨k, h⟩ := chk_s h
    have k2 := k
    obtain ⟨k, h⟩ := chk_s h
    refine x_getR (pc := 9) C fX7_175 rfl k2 k dX7_flownTogether_9 ?_
    refine x_iload_n (pc := 12) C dX7_flownTogether_12 rfl rfl ?_
    obtain ⟨k, h⟩ := chk_s h
    refine x_iald (pc := 13) C k dX7_flownTogether_13 ?_
    refine x_icmp_ge (pc := 14) (tgt := 37) C dX7_flownTogether_14 (by decide) (fun q => ?_) (fun q => ?_)
    · rw [if_pos q] at h
      exact x_sub (tX7_flownTogether_37 C hr h) (xLe_n (xLe_n (xLe_s (xLe_n xLe_0))))
    · rw [if_neg q] at h
      refine x_iload_n (pc := 17) C dX7_flownTogether_17 rfl rfl ?_
      refine x_aload_n (pc := 18) C dX7_flownTogether_18 rfl rfl ?_
      obtain ⟨k, h⟩ := chk_s h
      have k2 := k
      obtain ⟨k, h⟩ := chk_s h
      refine x_getR (pc := 19) C fX7_39 rfl k2 k dX7_flownTogether_19 ?_
      obtain ⟨k, h⟩ := chk_s h
      have k2 := k
      obtain ⟨k, h⟩ := chk_s h
      refine x_getR (pc := 22) C fX7_194 rfl k2 k dX7_flownTogether_22 ?_
      refine x_iload_n (pc := 25) C dX7_flownTogether_25 rfl rfl ?_
      obtain ⟨k, h⟩ := chk_s h
      refine x_gald (pc := 26) C k dX7_flownTogether_26 ?_
      refine x_iload_n (pc := 27) C dX7_flownTogether_27 rfl rfl ?_
      obtain ⟨k, h⟩ := chk_s h
      refine x_rald (pc := 28) C k dX7_flownTogether_28 ?_
      refine x_iadd (pc := 29) C dX7_flownTogether_29 ?_
      refine x_istore_n (M := [some _, some _, some _, some _]) (pc := 30) C dX7_flownTogether_30 rfl (by decide) rfl ?_
      refine x_iinc (v := 1) (M := [some _, some _, some _, some _]) (pc := 31) C dX7_flownTogether_31 rfl (by decide) (by decide) rfl ?_
      refine x_goto (tgt := 4) (pc := 34) C dX7_flownTogether_34 (by decide) ?_
      exact x_sub (ih _ _ _ _ _ h) (xLe_s (xLe_s (xLe_s (xLe_s xLe_0))))
def DX7_flownTogether (l0 : Nat) (l1 : Int32) (σ : Sg) : Option (Int32 × Sg) :=
  DX7_flownTogether_4 FU l0 l1 (0 : Int32) (0 : Int32) σ
theorem mX7_flownTogether (E : Ev) (l : Launch) {l0 : Nat} {l1 : Int32} {σ : Sg} {r : Int32} {σ' : Sg} (h : DX7_flownTogether l0 l1 σ = some (r, σ')) : Mt E l yX7_flownTogether cX7_flownTogether 4 (some .int) 1 0 0 [.ref (ad E l0), .int l1] σ (some (.int r)) σ' := by
  refine Mt.ofX (by decide) (Nat.le_of_ble_eq_true rfl) (L0 := [some (.ref (ad E l0)), some (.int l1), none, none]) (xEntN_ok [.ref (ad E l0), .int l1] 4) (fun p e s m args below meth c C hr hn => ?_)
  unfold DX7_flownTogether at h
  refine x_iconst (v := 0) (pc := 0) C dX7_flownTogether_0 (by decide) ?_
  refine x_istore_n (M := [some _, some _, some _, none]) (pc := 1) C dX7_flownTogether_1 rfl (by decide) rfl ?_
  refine x_iconst (v := 0) (pc := 2) C dX7_flownTogether_2 (by decide) ?_
  refine x_istore_n (M := [some _, some _, some _, some _]) (pc := 3) C dX7_flownTogether_3 rfl (by decide) rfl ?_
  exact x_sub (tX7_flownTogether_4 C hr FU _ _ _ _ _ h) (xLe_s (xLe_s (xLe_s (xLe_s xLe_0))))
def DX7_coupon_141 (s0 : Int32) (σ : Sg) : Option (Int32 × Sg) :=
  some (s0, σ)
theorem tX7_coupon_141 {r : Int32} {σ' : Sg} (C : Cx E p s m args meth c RX7 cX7_coupon 4) (hr : meth.sig.returnType = (some .int)) {s0 : Int32} {σ : Sg} (h : DX7_coupon_141 s0 σ = some (r, σ')) : Y E p l e (rmA 6 0 0) s m args below meth c (some (.int r)) σ' 0 0 4 0 0 σ 141 [none, none, none, none] [.int s0] := by
  unfold DX7_coupon_141 at h
  cases h
  exact x_iret C hr dX7_coupon_141
def DX7_coupon_179 (s0 : Int32) (σ : Sg) : Option (Int32 × Sg) :=
  some (s0, σ)
theorem tX7_coupon_179 {r : Int32} {σ' : Sg} (C : Cx E p s m args meth c RX7 cX7_coupon 4) (hr : meth.sig.returnType = (some .int)) {s0 : Int32} {σ : Sg} (h : DX7_coupon_179 s0 σ = some (r, σ')) : Y E p l e (rmA 6 0 0) s m args below meth c (some (.int r)) σ' 0 0 4 0 0 σ 179 [none, none, none, none] [.int s0] := by
  unfold DX7_coupon_179 at h
  cases h
  exact x_iret C hr dX7_coupon_179
def DX7_coupon (l0 : Nat) (l1 : Int32) (l2 : Int32) (l3 : Int32) (σ : Sg) : Option (Int32 × Sg) :=
  chk (ckO σ 5 l0) <|
  bnd (DX7_isCoupon l0 l1 l2 σ) fun v1 σ2 =>
  if v1 = 0 then
    some ((-1 : Int32), σ2)
  else
    chk (ckO σ2 5 l0) <|
    bnd (DX7_prorateNow l0 l1 σ2) fun _ σ3 =>
    if l3 = 0 then
      chk (ckO σ3 5 l0) <|
      chk (ckV (gR σ3 l0 5)) <|
      chk (ckO σ3 1 (gR σ3 l0 5)) <|
      chk (ckV (gR σ3 (gR σ3 l0 5) 3)) <|
      chk (ckG σ3 (gR σ3 (gR σ3 l0 5) 3) l1) <|
      chk (ckR σ3 (gR σ3 (gR σ3 l0 5) 3) l1.toNatClampNeg l2) <|
      some ((aG σ3 (gR σ3 (gR σ3 l0 5) 3) l1.toNatClampNeg l2.toNatClampNeg), σ3)
    else
      if l3 = 1 then
        chk (ckO σ3 5 l0) <|
        chk (ckV (gR σ3 l0 2)) <|
        chk (ckO σ3 0 (gR σ3 l0 2)) <|
        chk (ckV (gR σ3 (gR σ3 l0 2) 19)) <|
        chk (ckG σ3 (gR σ3 (gR σ3 l0 2) 19) l1) <|
        chk (ckR σ3 (gR σ3 (gR σ3 l0 2) 19) l1.toNatClampNeg l2) <|
        some ((aG σ3 (gR σ3 (gR σ3 l0 2) 19) l1.toNatClampNeg l2.toNatClampNeg), σ3)
      else
        if l3 = 2 then
          chk (ckO σ3 5 l0) <|
          chk (ckV (gR σ3 l0 2)) <|
          chk (ckO σ3 0 (gR σ3 l0 2)) <|
          chk (ckV (gR σ3 (gR σ3 l0 2) 19)) <|
          chk (ckG σ3 (gR σ3 (gR σ3 l0 2) 19) l1) <|
          chk (ckR σ3 (gR σ3 (gR σ3 l0 2) 19) l1.toNatClampNeg (l2 + (1 : Int32))) <|
          some ((aG σ3 (gR σ3 (gR σ3 l0 2) 19) l1.toNatClampNeg (l2 + (1 : Int32)).toNatClampNeg), σ3)
        else
          if l3 = 3 then
            chk (ckO σ3 5 l0) <|
            chk (ckV (gR σ3 l0 2)) <|
            chk (ckO σ3 0 (gR σ3 l0 2)) <|
            bnd (DX1_milesOf (gR σ3 l0 2) l1 l2 σ3) fun v4 σ5 =>
            some (v4, σ5)
          else
            if l3 = 4 then
              chk (ckO σ3 5 l0) <|
              chk (ckV (gR σ3 l0 6)) <|
              chk (ckO σ3 4 (gR σ3 l0 6)) <|
              chk (ckV (gR σ3 (gR σ3 l0 6) 11)) <|
              chk (ckJ σ3 (gR σ3 (gR σ3 l0 6) 11) l2) <|
              some ((aJ σ3 (gR σ3 (gR σ3 l0 6) 11) l2.toNatClampNeg).toInt32, σ3)
            else
              if l3 = 5 then
                chk (ckO σ3 5 l0) <|
                chk (ckV (gR σ3 l0 5)) <|
                chk (ckO σ3 1 (gR σ3 l0 5)) <|
                chk (ckV (gR σ3 (gR σ3 l0 5) 1)) <|
                chk (ckI σ3 (gR σ3 (gR σ3 l0 5) 1) l1) <|
                if (aI σ3 (gR σ3 (gR σ3 l0 5) 1) l1.toNatClampNeg) ≤ l2 then
                  DX7_coupon_141 (0 : Int32) σ3
                else
                  DX7_coupon_141 (1 : Int32) σ3
              else
                if l3 = 6 then
                  chk (ckO σ3 5 l0) <|
                  chk (ckV (gR σ3 l0 6)) <|
                  chk (ckO σ3 4 (gR σ3 l0 6)) <|
                  chk (ckV (gR σ3 (gR σ3 l0 6) 9)) <|
                  chk (ckI σ3 (gR σ3 (gR σ3 l0 6) 9) l2) <|
                  some ((aI σ3 (gR σ3 (gR σ3 l0 6) 9) l2.toNatClampNeg), σ3)
                else
                  if l3 = 7 then
                    chk (ckO σ3 5 l0) <|
                    chk (ckV (gR σ3 l0 6)) <|
                    chk (ckO σ3 4 (gR σ3 l0 6)) <|
                    chk (ckV (gR σ3 (gR σ3 l0 6) 7)) <|
                    chk (ckI σ3 (gR σ3 (gR σ3 l0 6) 7) l2) <|
                    if (aI σ3 (gR σ3 (gR σ3 l0 6) 7) l2.toNatClampNeg) = (-1 : Int32) then
                      DX7_coupon_179 (-2 : Int32) σ3
                    else
                      chk (ckO σ3 5 l0) <|
                      chk (ckV (gR σ3 l0 6)) <|
                      chk (ckO σ3 4 (gR σ3 l0 6)) <|
                      chk (ckV (gR σ3 (gR σ3 l0 6) 7)) <|
                      chk (ckI σ3 (gR σ3 (gR σ3 l0 6) 7) l2) <|
                      DX7_coupon_179 (aI σ3 (gR σ3 (gR σ3 l0 6) 7) l2.toNatClampNeg) σ3
                  else
                    some ((-1 : Int32), σ3)
theorem mX7_coupon (E : Ev) (l : Launch) {l0 : Nat} {l1 : Int32} {l2 : Int32} {l3 : Int32} {σ : Sg} {r : Int32} {σ' : Sg} (h : DX7_coupon l0 l1 l2 l3 σ = some (r, σ')) : Mt E l yX7_coupon cX7_coupon 4 (some .int) 6 0 0 [.ref (ad E l0), .int l1, .int l2, .int l3] σ (some (.int r)) σ' := by
  refine Mt.ofX (by decide) (Nat.le_of_ble_eq_true rfl) (L0 := [some (.ref (ad E l0)), some (.int l1), some (.int l2), some (.int l3)]) (xEntN_ok [.ref (ad E l0), .int l1, .int l2, .int l3] 4) (fun p e s m args below meth c C hr hn => ?_)
  unfold DX7_coupon at h
  refine x_aload_n (pc := 0) C dX7_coupon_0 rfl rfl ?_
  refine x_iload_n (pc := 1) C dX7_coupon_1 rfl rfl ?_
  refine x_iload_n (pc := 2) C dX7_coupon_2 rfl rfl ?_
  obtain ⟨k, h⟩ := chk_s h
  have k2 := k
  obtain ⟨v1, σ2, k, h⟩ := bnd_s h
  refine x_callV1 (pc := 3) C (mX7_isCoupon E l k) cl5 k2 cX7_197 nX7_isCoupon sX7_isCoupon rfl rfl (Nat.le_of_ble_eq_true rfl) ⟨Nat.le_of_ble_eq_true rfl, Nat.le_of_ble_eq_true rfl, Nat.le_of_ble_eq_true rfl, Nat.le_of_ble_eq_true rfl⟩ dX7_coupon_3 ?_
  refine x_if_ne (pc := 6) (tgt := 11) C dX7_coupon_6 (by decide) (fun q => ?_) (fun q => ?_)
  · rw [if_pos q] at h
    refine x_iconst (v := -1) (pc := 9) C dX7_coupon_9 (by decide) ?_
    cases h
    exact x_iret C hr dX7_coupon_10
  · rw [if_neg q] at h
    refine x_aload_n (pc := 11) C dX7_coupon_11 rfl rfl ?_
    refine x_iload_n (pc := 12) C dX7_coupon_12 rfl rfl ?_
    obtain ⟨k, h⟩ := chk_s h
    have k2 := k
    obtain ⟨u0, σ3, k, h⟩ := bnd_s h
    refine x_callV0 (pc := 13) C (mX7_prorateNow E l k) cl5 k2 cX7_158 nX7_prorateNow sX7_prorateNow rfl rfl (Nat.le_of_ble_eq_true rfl) ⟨Nat.le_of_ble_eq_true rfl, Nat.le_of_ble_eq_true rfl, Nat.le_of_ble_eq_true rfl, Nat.le_of_ble_eq_true rfl⟩ dX7_coupon_13 ?_
    refine x_iload_n (pc := 16) C dX7_coupon_16 rfl rfl ?_
    refine br_em (c := l3 = 0) (fun q0 => ?_) (fun q0 => ?_)
    · rw [if_pos q0] at h
      refine x_switchIn (pc := 17) (tgt := 64) C dX7_coupon_17 (by rw [q0]; decide) (by rw [q0]; decide) (o := 47) (by rw [q0]; rfl) (by decide) ?_
      refine x_aload_n (pc := 64) C dX7_coupon_64 rfl rfl ?_
      obtain ⟨k, h⟩ := chk_s h
      have k2 := k
      obtain ⟨k, h⟩ := chk_s h
      refine x_getR (pc := 65) C fX7_39 rfl k2 k dX7_coupon_65 ?_
      obtain ⟨k, h⟩ := chk_s h
      have k2 := k
      obtain ⟨k, h⟩ := chk_s h
      refine x_getR (pc := 68) C fX7_200 rfl k2 k dX7_coupon_68 ?_
      refine x_iload_n (pc := 71) C dX7_coupon_71 rfl rfl ?_
      obtain ⟨k, h⟩ := chk_s h
      refine x_gald (pc := 72) C k dX7_coupon_72 ?_
      refine x_iload_n (pc := 73) C dX7_coupon_73 rfl rfl ?_
      obtain ⟨k, h⟩ := chk_s h
      refine x_rald (pc := 74) C k dX7_coupon_74 ?_
      cases h
      exact x_iret C hr dX7_coupon_75
    · rw [if_neg q0] at h
      refine br_em (c := l3 = 1) (fun q1 => ?_) (fun q1 => ?_)
      · rw [if_pos q1] at h
        refine x_switchIn (pc := 17) (tgt := 76) C dX7_coupon_17 (by rw [q1]; decide) (by rw [q1]; decide) (o := 59) (by rw [q1]; rfl) (by decide) ?_
        refine x_aload_n (pc := 76) C dX7_coupon_76 rfl rfl ?_
        obtain ⟨k, h⟩ := chk_s h
        have k2 := k
        obtain ⟨k, h⟩ := chk_s h
        refine x_getR (pc := 77) C fX7_20 rfl k2 k dX7_coupon_77 ?_
        obtain ⟨k, h⟩ := chk_s h
        have k2 := k
        obtain ⟨k, h⟩ := chk_s h
        refine x_getR (pc := 80) C fX7_202 rfl k2 k dX7_coupon_80 ?_
        refine x_iload_n (pc := 83) C dX7_coupon_83 rfl rfl ?_
        obtain ⟨k, h⟩ := chk_s h
        refine x_gald (pc := 84) C k dX7_coupon_84 ?_
        refine x_iload_n (pc := 85) C dX7_coupon_85 rfl rfl ?_
        obtain ⟨k, h⟩ := chk_s h
        refine x_rald (pc := 86) C k dX7_coupon_86 ?_
        cases h
        exact x_iret C hr dX7_coupon_87
      · rw [if_neg q1] at h
        refine br_em (c := l3 = 2) (fun q2 => ?_) (fun q2 => ?_)
        · rw [if_pos q2] at h
          refine x_switchIn (pc := 17) (tgt := 88) C dX7_coupon_17 (by rw [q2]; decide) (by rw [q2]; decide) (o := 71) (by rw [q2]; rfl) (by decide) ?_
          refine x_aload_n (pc := 88) C dX7_coupon_88 rfl rfl ?_
          obtain ⟨k, h⟩ := chk_s h
          have k2 := k
          obtain ⟨k, h⟩ := chk_s h
          refine x_getR (pc := 89) C fX7_20 rfl k2 k dX7_coupon_89 ?_
          obtain ⟨k, h⟩ := chk_s h
          have k2 := k
          obtain ⟨k, h⟩ := chk_s h
          refine x_getR (pc := 92) C fX7_202 rfl k2 k dX7_coupon_92 ?_
          refine x_iload_n (pc := 95) C dX7_coupon_95 rfl rfl ?_
          obtain ⟨k, h⟩ := chk_s h
          refine x_gald (pc := 96) C k dX7_coupon_96 ?_
          refine x_iload_n (pc := 97) C dX7_coupon_97 rfl rfl ?_
          refine x_iconst (v := 1) (pc := 98) C dX7_coupon_98 (by decide) ?_
          refine x_iadd (pc := 99) C dX7_coupon_99 ?_
          obtain ⟨k, h⟩ := chk_s h
          refine x_rald (pc := 100) C k dX7_coupon_100 ?_
          cases h
          exact x_iret C hr dX7_coupon_101
        · rw [if_neg q2] at h
          refine br_em (c := l3 = 3) (fun q3 => ?_) (fun q3 => ?_)
          · rw [if_pos q3] at h
            refine x_switchIn (pc := 17) (tgt := 102) C dX7_coupon_17 (by rw [q3]; decide) (by rw [q3]; decide) (o := 85) (by rw [q3]; rfl) (by decide) ?_
            refine x_aload_n (pc := 102) C dX7_coupon_102 rfl rfl ?_
            obtain ⟨k, h⟩ := chk_s h
            have k2 := k
            obtain ⟨k, h⟩ := chk_s h
            refine x_getR (pc := 103) C fX7_20 rfl k2 k dX7_coupon_103 ?_
            refine x_iload_n (pc := 106) C dX7_coupon_106 rfl rfl ?_
            refine x_iload_n (pc := 107) C dX7_coupon_107 rfl rfl ?_
            obtain ⟨k, h⟩ := chk_s h
            have k2 := k
            obtain ⟨v4, σ5, k, h⟩ := bnd_s h
            refine x_callV1 (pc := 108) C (mX1_milesOf E l k) cl0 k2 cX7_191 nX1_milesOf sX1_milesOf rfl rfl (Nat.le_of_ble_eq_true rfl) ⟨Nat.le_of_ble_eq_true rfl, Nat.le_of_ble_eq_true rfl, Nat.le_of_ble_eq_true rfl, Nat.le_of_ble_eq_true rfl⟩ dX7_coupon_108 ?_
            cases h
            exact x_iret C hr dX7_coupon_111
          · rw [if_neg q3] at h
            refine br_em (c := l3 = 4) (fun q4 => ?_) (fun q4 => ?_)
            · rw [if_pos q4] at h
              refine x_switchIn (pc := 17) (tgt := 112) C dX7_coupon_17 (by rw [q4]; decide) (by rw [q4]; decide) (o := 95) (by rw [q4]; rfl) (by decide) ?_
              refine x_aload_n (pc := 112) C dX7_coupon_112 rfl rfl ?_
              obtain ⟨k, h⟩ := chk_s h
              have k2 := k
              obtain ⟨k, h⟩ := chk_s h
              refine x_getR (pc := 113) C fX7_48 rfl k2 k dX7_coupon_113 ?_
              obtain ⟨k, h⟩ := chk_s h
              have k2 := k
              obtain ⟨k, h⟩ := chk_s h
              refine x_getR (pc := 116) C fX7_205 rfl k2 k dX7_coupon_116 ?_
              refine x_iload_n (pc := 119) C dX7_coupon_119 rfl rfl ?_
              obtain ⟨k, h⟩ := chk_s h
              refine x_lald (pc := 120) C k dX7_coupon_120 ?_
              refine x_l2i (pc := 121) C dX7_coupon_121 ?_
              cases h
              exact x_iret C hr dX7_coupon_122
            · rw [if_neg q4] at h
              refine br_em (c := l3 = 5) (fun q5 => ?_) (fun q5 => ?_)
              · rw [if_pos q5] at h
                refine x_switchIn (pc := 17) (tgt := 123) C dX7_coupon_17 (by rw [q5]; decide) (by rw [q5]; decide) (o := 106) (by rw [q5]; rfl) (by decide) ?_
                refine x_iload_n (pc := 123) C dX7_coupon_123 rfl rfl ?_
                refine x_aload_n (pc := 124) C dX7_coupon_124 rfl rfl ?_
                obtain ⟨k, h⟩ := chk_s h
                have k2 := k
                obtain ⟨k, h⟩ := chk_s h
                refine x_getR (pc := 125) C fX7_39 rfl k2 k dX7_coupon_125 ?_
                obtain ⟨k, h⟩ := chk_s h
                have k2 := k
                obtain ⟨k, h⟩ := chk_s h
                refine x_getR (pc := 128) C fX7_175 rfl k2 k dX7_coupon_128 ?_
                refine x_iload_n (pc := 131) C dX7_coupon_131 rfl rfl ?_
                obtain ⟨k, h⟩ := chk_s h
                refine x_iald (pc := 132) C k dX7_coupon_132 ?_
                refine x_icmp_ge (pc := 133) (tgt := 140) C dX7_coupon_133 (by decide) (fun q => ?_) (fun q => ?_)
                · rw [if_pos q] at h
                  refine x_iconst (v := 0) (pc := 140) C dX7_coupon_140 (by decide) ?_
                  exact x_sub (tX7_coupon_141 C hr h) (xLe_n (xLe_n (xLe_n (xLe_n xLe_0))))
                · rw [if_neg q] at h
                  refine x_iconst (v := 1) (pc := 136) C dX7_coupon_136 (by decide) ?_
                  refine x_goto (tgt := 141) (pc := 137) C dX7_coupon_137 (by decide) ?_
                  exact x_sub (tX7_coupon_141 C hr h) (xLe_n (xLe_n (xLe_n (xLe_n xLe_0))))
              · rw [if_neg q5] at h
                refine br_em (c := l3 = 6) (fun q6 => ?_) (fun q6 => ?_)
                · rw [if_pos q6] at h
                  refine x_switchIn (pc := 17) (tgt := 142) C dX7_coupon_17 (by rw [q6]; decide) (by rw [q6]; decide) (o := 125) (by rw [q6]; rfl) (by decide) ?_
                  refine x_aload_n (pc := 142) C dX7_coupon_142 rfl rfl ?_
                  obtain ⟨k, h⟩ := chk_s h
                  have k2 := k
                  obtain ⟨k, h⟩ := chk_s h
                  refine x_getR (pc := 143) C fX7_48 rfl k2 k dX7_coupon_143 ?_
                  obtain ⟨k, h⟩ := chk_s h
                  have k2 := k
                  obtain ⟨k, h⟩ := chk_s h
                  refine x_getR (pc := 146) C fX7_209 rfl k2 k dX7_coupon_146 ?_
                  refine x_iload_n (pc := 149) C dX7_coupon_149 rfl rfl ?_
                  obtain ⟨k, h⟩ := chk_s h
                  refine x_iald (pc := 150) C k dX7_coupon_150 ?_
                  cases h
                  exact x_iret C hr dX7_coupon_151
                · rw [if_neg q6] at h
                  refine br_em (c := l3 = 7) (fun q7 => ?_) (fun q7 => ?_)
                  · rw [if_pos q7] at h
                    refine x_switchIn (pc := 17) (tgt := 152) C dX7_coupon_17 (by rw [q7]; decide) (by rw [q7]; decide) (o := 135) (by rw [q7]; rfl) (by decide) ?_
                    refine x_aload_n (pc := 152) C dX7_coupon_152 rfl rfl ?_
                    obtain ⟨k, h⟩ := chk_s h
                    have k2 := k
                    obtain ⟨k, h⟩ := chk_s h
                    refine x_getR (pc := 153) C fX7_48 rfl k2 k dX7_coupon_153 ?_
                    obtain ⟨k, h⟩ := chk_s h
                    have k2 := k
                    obtain ⟨k, h⟩ := chk_s h
                    refine x_getR (pc := 156) C fX7_164 rfl k2 k dX7_coupon_156 ?_
                    refine x_iload_n (pc := 159) C dX7_coupon_159 rfl rfl ?_
                    obtain ⟨k, h⟩ := chk_s h
                    refine x_iald (pc := 160) C k dX7_coupon_160 ?_
                    refine x_iconst (v := -1) (pc := 161) C dX7_coupon_161 (by decide) ?_
                    refine x_icmp_ne (pc := 162) (tgt := 170) C dX7_coupon_162 (by decide) (fun q => ?_) (fun q => ?_)
                    · rw [if_pos q] at h
                      refine x_bipush (v := -2) (pc := 165) C dX7_coupon_165 (by decide) ?_
                      refine x_goto (tgt := 179) (pc := 167) C dX7_coupon_167 (by decide) ?_
                      exact x_sub (tX7_coupon_179 C hr h) (xLe_n (xLe_n (xLe_n (xLe_n xLe_0))))
                    · rw [if_neg q] at h
                      refine x_aload_n (pc := 170) C dX7_coupon_170 rfl rfl ?_
                      obtain ⟨k, h⟩ := chk_s h
                      have k2 := k
                      obtain ⟨k, h⟩ := chk_s h
                      refine x_getR (pc := 171) C fX7_48 rfl k2 k dX7_coupon_171 ?_
                      obtain ⟨k, h⟩ := chk_s h
                      have k2 := k
                      obtain ⟨k, h⟩ := chk_s h
                      refine x_getR (pc := 174) C fX7_164 rfl k2 k dX7_coupon_174 ?_
                      refine x_iload_n (pc := 177) C dX7_coupon_177 rfl rfl ?_
                      obtain ⟨k, h⟩ := chk_s h
                      refine x_iald (pc := 178) C k dX7_coupon_178 ?_
                      exact x_sub (tX7_coupon_179 C hr h) (xLe_n (xLe_n (xLe_n (xLe_n xLe_0))))
                  · rw [if_neg q7] at h
                    have eq0 := sw_ne (k := 0) q0 (by decide)
                    have eq1 := sw_ne (k := 1) q1 (by decide)
                    have eq2 := sw_ne (k := 2) q2 (by decide)
                    have eq3 := sw_ne (k := 3) q3 (by decide)
                    have eq4 := sw_ne (k := 4) q4 (by decide)
                    have eq5 := sw_ne (k := 5) q5 (by decide)
                    have eq6 := sw_ne (k := 6) q6 (by decide)
                    have eq7 := sw_ne (k := 7) q7 (by decide)
                    refine x_switchOut (pc := 17) (tgt := 180) C dX7_coupon_17 (by omega) (by decide) ?_
                    refine x_iconst (v := -1) (pc := 180) C dX7_coupon_180 (by decide) ?_
                    cases h
                    exact x_iret C hr dX7_coupon_181
def DX7_prorateStraight (l0 : Nat) (l1 : Int32) (σ : Sg) : Option (Unit × Sg) :=
  chk (ckO σ 5 l0) <|
  chk (ckV (gR σ l0 6)) <|
  chk (ckO σ 5 l0) <|
  chk (ckV (gR σ l0 2)) <|
  chk (ckO σ 5 l0) <|
  chk (ckV (gR σ l0 5)) <|
  chk (ckO σ 4 (gR σ l0 6)) <|
  bnd (DX5_take (gR σ l0 6) (gR σ l0 2) (gR σ l0 5) l1 σ) fun _ σ1 =>
  chk (ckO σ1 5 l0) <|
  chk (ckV (gR σ1 l0 6)) <|
  chk (ckO σ1 4 (gR σ1 l0 6)) <|
  bnd (DX5_forgetProvisosAndFlown (gR σ1 l0 6) σ1) fun _ σ2 =>
  chk (ckO σ2 5 l0) <|
  chk (ckV (gR σ2 l0 6)) <|
  chk (ckO σ2 4 (gR σ2 l0 6)) <|
  bnd (DX5_prorate (gR σ2 l0 6) σ2) fun _ σ3 =>
  some ((), σ3)
theorem mX7_prorateStraight (E : Ev) (l : Launch) {l0 : Nat} {l1 : Int32} {σ : Sg} {r : Unit} {σ' : Sg} (h : DX7_prorateStraight l0 l1 σ = some (r, σ')) : Mt E l yX7_prorateStraight cX7_prorateStraight 2 none 5 0 0 [.ref (ad E l0), .int l1] σ none σ' := by
  refine Mt.ofX (by decide) (Nat.le_of_ble_eq_true rfl) (L0 := [some (.ref (ad E l0)), some (.int l1)]) (xEntN_ok [.ref (ad E l0), .int l1] 2) (fun p e s m args below meth c C hr hn => ?_)
  unfold DX7_prorateStraight at h
  refine x_aload_n (pc := 0) C dX7_prorateStraight_0 rfl rfl ?_
  obtain ⟨k, h⟩ := chk_s h
  have k2 := k
  obtain ⟨k, h⟩ := chk_s h
  refine x_getR (pc := 1) C fX7_48 rfl k2 k dX7_prorateStraight_1 ?_
  refine x_aload_n (pc := 4) C dX7_prorateStraight_4 rfl rfl ?_
  obtain ⟨k, h⟩ := chk_s h
  have k2 := k
  obtain ⟨k, h⟩ := chk_s h
  refine x_getR (pc := 5) C fX7_20 rfl k2 k dX7_prorateStraight_5 ?_
  refine x_aload_n (pc := 8) C dX7_prorateStraight_8 rfl rfl ?_
  obtain ⟨k, h⟩ := chk_s h
  have k2 := k
  obtain ⟨k, h⟩ := chk_s h
  refine x_getR (pc := 9) C fX7_39 rfl k2 k dX7_prorateStraight_9 ?_
  refine x_iload_n (pc := 12) C dX7_prorateStraight_12 rfl rfl ?_
  obtain ⟨k, h⟩ := chk_s h
  have k2 := k
  obtain ⟨u0, σ1, k, h⟩ := bnd_s h
  refine x_callV0 (pc := 13) C (mX5_take E l k) cl4 k2 cX7_212 nX5_take sX5_take rfl rfl (Nat.le_of_ble_eq_true rfl) ⟨Nat.le_of_ble_eq_true rfl, Nat.le_of_ble_eq_true rfl, Nat.le_of_ble_eq_true rfl, Nat.le_of_ble_eq_true rfl⟩ dX7_prorateStraight_13 ?_
  refine x_aload_n (pc := 16) C dX7_prorateStraight_16 rfl rfl ?_
  obtain ⟨k, h⟩ := chk_s h
  have k2 := k
  obtain ⟨k, h⟩ := chk_s h
  refine x_getR (pc := 17) C fX7_48 rfl k2 k dX7_prorateStraight_17 ?_
  obtain ⟨k, h⟩ := chk_s h
  have k2 := k
  obtain ⟨u0, σ2, k, h⟩ := bnd_s h
  refine x_callV0 (pc := 20) C (mX5_forgetProvisosAndFlown E l k) cl4 k2 cX7_219 nX5_forgetProvisosAndFlown sX5_forgetProvisosAndFlown rfl rfl (Nat.le_of_ble_eq_true rfl) ⟨Nat.le_of_ble_eq_true rfl, Nat.le_of_ble_eq_true rfl, Nat.le_of_ble_eq_true rfl, Nat.le_of_ble_eq_true rfl⟩ dX7_prorateStraight_20 ?_
  refine x_aload_n (pc := 23) C dX7_prorateStraight_23 rfl rfl ?_
  obtain ⟨k, h⟩ := chk_s h
  have k2 := k
  obtain ⟨k, h⟩ := chk_s h
  refine x_getR (pc := 24) C fX7_48 rfl k2 k dX7_prorateStraight_24 ?_
  obtain ⟨k, h⟩ := chk_s h
  have k2 := k
  obtain ⟨u0, σ3, k, h⟩ := bnd_s h
  refine x_callV0 (pc := 27) C (mX5_prorate E l k) cl4 k2 cX7_216 nX5_prorate sX5_prorate rfl rfl (Nat.le_of_ble_eq_true rfl) ⟨Nat.le_of_ble_eq_true rfl, Nat.le_of_ble_eq_true rfl, Nat.le_of_ble_eq_true rfl, Nat.le_of_ble_eq_true rfl⟩ dX7_prorateStraight_27 ?_
  cases h
  exact x_vret C hr dX7_prorateStraight_30
def DX7_prorateWithout (l0 : Nat) (l1 : Int32) (l2 : Int32) (σ : Sg) : Option (Unit × Sg) :=
  chk (ckO σ 5 l0) <|
  chk (ckV (gR σ l0 6)) <|
  chk (ckO σ 5 l0) <|
  chk (ckV (gR σ l0 2)) <|
  chk (ckO σ 5 l0) <|
  chk (ckV (gR σ l0 5)) <|
  chk (ckO σ 4 (gR σ l0 6)) <|
  bnd (DX5_take (gR σ l0 6) (gR σ l0 2) (gR σ l0 5) l2 σ) fun _ σ1 =>
  chk (ckO σ1 5 l0) <|
  chk (ckV (gR σ1 l0 6)) <|
  chk (ckO σ1 4 (gR σ1 l0 6)) <|
  wlet (pI σ1 (gR σ1 l0 6) 5 l1) fun σ2 =>
  chk (ckO σ2 5 l0) <|
  chk (ckV (gR σ2 l0 6)) <|
  chk (ckO σ2 4 (gR σ2 l0 6)) <|
  bnd (DX5_prorate (gR σ2 l0 6) σ2) fun _ σ3 =>
  some ((), σ3)
theorem mX7_prorateWithout (E : Ev) (l : Launch) {l0 : Nat} {l1 : Int32} {l2 : Int32} {σ : Sg} {r : Unit} {σ' : Sg} (h : DX7_prorateWithout l0 l1 l2 σ = some (r, σ')) : Mt E l yX7_prorateWithout cX7_prorateWithout 3 none 5 0 0 [.ref (ad E l0), .int l1, .int l2] σ none σ' := by
  refine Mt.ofX (by decide) (Nat.le_of_ble_eq_true rfl) (L0 := [some (.ref (ad E l0)), some (.int l1), some (.int l2)]) (xEntN_ok [.ref (ad E l0), .int l1, .int l2] 3) (fun p e s m args below meth c C hr hn => ?_)
  unfold DX7_prorateWithout at h
  refine x_aload_n (pc := 0) C dX7_prorateWithout_0 rfl rfl ?_
  obtain ⟨k, h⟩ := chk_s h
  have k2 := k
  obtain ⟨k, h⟩ := chk_s h
  refine x_getR (pc := 1) C fX7_48 rfl k2 k dX7_prorateWithout_1 ?_
  refine x_aload_n (pc := 4) C dX7_prorateWithout_4 rfl rfl ?_
  obtain ⟨k, h⟩ := chk_s h
  have k2 := k
  obtain ⟨k, h⟩ := chk_s h
  refine x_getR (pc := 5) C fX7_20 rfl k2 k dX7_prorateWithout_5 ?_
  refine x_aload_n (pc := 8) C dX7_prorateWithout_8 rfl rfl ?_
  obtain ⟨k, h⟩ := chk_s h
  have k2 := k
  obtain ⟨k, h⟩ := chk_s h
  refine x_getR (pc := 9) C fX7_39 rfl k2 k dX7_prorateWithout_9 ?_
  refine x_iload_n (pc := 12) C dX7_prorateWithout_12 rfl rfl ?_
  obtain ⟨k, h⟩ := chk_s h
  have k2 := k
  obtain ⟨u0, σ1, k, h⟩ := bnd_s h
  refine x_callV0 (pc := 13) C (mX5_take E l k) cl4 k2 cX7_212 nX5_take sX5_take rfl rfl (Nat.le_of_ble_eq_true rfl) ⟨Nat.le_of_ble_eq_true rfl, Nat.le_of_ble_eq_true rfl, Nat.le_of_ble_eq_true rfl, Nat.le_of_ble_eq_true rfl⟩ dX7_prorateWithout_13 ?_
  refine x_aload_n (pc := 16) C dX7_prorateWithout_16 rfl rfl ?_
  obtain ⟨k, h⟩ := chk_s h
  have k2 := k
  obtain ⟨k, h⟩ := chk_s h
  refine x_getR (pc := 17) C fX7_48 rfl k2 k dX7_prorateWithout_17 ?_
  refine x_iload_n (pc := 20) C dX7_prorateWithout_20 rfl rfl ?_
  obtain ⟨k, h⟩ := chk_s h
  obtain ⟨σ2, e1, h⟩ := wlet_s h
  refine x_putI (pc := 21) C pX7_222 rfl k dX7_prorateWithout_21 (x_eq e1 ?_)
  refine x_aload_n (pc := 24) C dX7_prorateWithout_24 rfl rfl ?_
  obtain ⟨k, h⟩ := chk_s h
  have k2 := k
  obtain ⟨k, h⟩ := chk_s h
  refine x_getR (pc := 25) C fX7_48 rfl k2 k dX7_prorateWithout_25 ?_
  obtain ⟨k, h⟩ := chk_s h
  have k2 := k
  obtain ⟨u0, σ3, k, h⟩ := bnd_s h
  refine x_callV0 (pc := 28) C (mX5_prorate E l k) cl4 k2 cX7_216 nX5_prorate sX5_prorate rfl rfl (Nat.le_of_ble_eq_true rfl) ⟨Nat.le_of_ble_eq_true rfl, Nat.le_of_ble_eq_true rfl, Nat.le_of_ble_eq_true rfl, Nat.le_of_ble_eq_true rfl⟩ dX7_prorateWithout_28 ?_
  cases h
  exact x_vret C hr dX7_prorateWithout_31
def DX7_shareNow (l0 : Nat) (l1 : Int32) (l2 : Int32) (σ : Sg) : Option (Int32 × Sg) :=
  chk (ckO σ 5 l0) <|
  bnd (DX7_prorateNow l0 l1 σ) fun _ σ1 =>
  chk (ckO σ1 5 l0) <|
  chk (ckV (gR σ1 l0 6)) <|
  chk (ckO σ1 4 (gR σ1 l0 6)) <|
  chk (ckV (gR σ1 (gR σ1 l0 6) 12)) <|
  chk (ckI σ1 (gR σ1 (gR σ1 l0 6) 12) l2) <|
  some ((aI σ1 (gR σ1 (gR σ1 l0 6) 12) l2.toNatClampNeg), σ1)
theorem mX7_shareNow (E : Ev) (l : Launch) {l0 : Nat} {l1 : Int32} {l2 : Int32} {σ : Sg} {r : Int32} {σ' : Sg} (h : DX7_shareNow l0 l1 l2 σ = some (r, σ')) : Mt E l yX7_shareNow cX7_shareNow 3 (some .int) 6 0 0 [.ref (ad E l0), .int l1, .int l2] σ (some (.int r)) σ' := by
  refine Mt.ofX (by decide) (Nat.le_of_ble_eq_true rfl) (L0 := [some (.ref (ad E l0)), some (.int l1), some (.int l2)]) (xEntN_ok [.ref (ad E l0), .int l1, .int l2] 3) (fun p e s m args below meth c C hr hn => ?_)
  unfold DX7_shareNow at h
  refine x_aload_n (pc := 0) C dX7_shareNow_0 rfl rfl ?_
  refine x_iload_n (pc := 1) C dX7_shareNow_1 rfl rfl ?_
  obtain ⟨k, h⟩ := chk_s h
  have k2 := k
  obtain ⟨u0, σ1, k, h⟩ := bnd_s h
  refine x_callV0 (pc := 2) C (mX7_prorateNow E l k) cl5 k2 cX7_158 nX7_prorateNow sX7_prorateNow rfl rfl (Nat.le_of_ble_eq_true rfl) ⟨Nat.le_of_ble_eq_true rfl, Nat.le_of_ble_eq_true rfl, Nat.le_of_ble_eq_true rfl, Nat.le_of_ble_eq_true rfl⟩ dX7_shareNow_2 ?_
  refine x_aload_n (pc := 5) C dX7_shareNow_5 rfl rfl ?_
  obtain ⟨k, h⟩ := chk_s h
  have k2 := k
  obtain ⟨k, h⟩ := chk_s h
  refine x_getR (pc := 6) C fX7_48 rfl k2 k dX7_shareNow_6 ?_
  obtain ⟨k, h⟩ := chk_s h
  have k2 := k
  obtain ⟨k, h⟩ := chk_s h
  refine x_getR (pc := 9) C fX7_225 rfl k2 k dX7_shareNow_9 ?_
  refine x_iload_n (pc := 12) C dX7_shareNow_12 rfl rfl ?_
  obtain ⟨k, h⟩ := chk_s h
  refine x_iald (pc := 13) C k dX7_shareNow_13 ?_
  cases h
  exact x_iret C hr dX7_shareNow_14
def DX7_shareEndorsed (l0 : Nat) (l1 : Int32) (l2 : Int32) (l3 : Int32) (σ : Sg) : Option (Int32 × Sg) :=
  chk (ckO σ 5 l0) <|
  chk (ckV (gR σ l0 6)) <|
  chk (ckO σ 5 l0) <|
  chk (ckV (gR σ l0 2)) <|
  chk (ckO σ 5 l0) <|
  chk (ckV (gR σ l0 5)) <|
  chk (ckO σ 4 (gR σ l0 6)) <|
  bnd (DX5_take (gR σ l0 6) (gR σ l0 2) (gR σ l0 5) l1 σ) fun _ σ1 =>
  chk (ckO σ1 5 l0) <|
  chk (ckV (gR σ1 l0 6)) <|
  chk (ckO σ1 4 (gR σ1 l0 6)) <|
  chk (ckV (gR σ1 (gR σ1 l0 6) 6)) <|
  chk (ckI σ1 (gR σ1 (gR σ1 l0 6) 6) l2) <|
  wlet (wI σ1 (gR σ1 (gR σ1 l0 6) 6) l2.toNatClampNeg l3) fun σ2 =>
  chk (ckO σ2 5 l0) <|
  chk (ckV (gR σ2 l0 6)) <|
  chk (ckO σ2 4 (gR σ2 l0 6)) <|
  bnd (DX5_prorate (gR σ2 l0 6) σ2) fun _ σ3 =>
  chk (ckO σ3 5 l0) <|
  chk (ckV (gR σ3 l0 6)) <|
  chk (ckO σ3 4 (gR σ3 l0 6)) <|
  chk (ckV (gR σ3 (gR σ3 l0 6) 12)) <|
  chk (ckI σ3 (gR σ3 (gR σ3 l0 6) 12) l2) <|
  some ((aI σ3 (gR σ3 (gR σ3 l0 6) 12) l2.toNatClampNeg), σ3)
theorem mX7_shareEndorsed (E : Ev) (l : Launch) {l0 : Nat} {l1 : Int32} {l2 : Int32} {l3 : Int32} {σ : Sg} {r : Int32} {σ' : Sg} (h : DX7_shareEndorsed l0 l1 l2 l3 σ = some (r, σ')) : Mt E l yX7_shareEndorsed cX7_shareEndorsed 4 (some .int) 5 0 0 [.ref (ad E l0), .int l1, .int l2, .int l3] σ (some (.int r)) σ' := by
  refine Mt.ofX (by decide) (Nat.le_of_ble_eq_true rfl) (L0 := [some (.ref (ad E l0)), some (.int l1), some (.int l2), some (.int l3)]) (xEntN_ok [.ref (ad E l0), .int l1, .int l2, .int l3] 4) (fun p e s m args below meth c C hr hn => ?_)
  unfold DX7_shareEndorsed at h
  refine x_aload_n (pc := 0) C dX7_shareEndorsed_0 rfl rfl ?_
  obtain ⟨k, h⟩ := chk_s h
  have k2 := k
  obtain ⟨k, h⟩ := chk_s h
  refine x_getR (pc := 1) C fX7_48 rfl k2 k dX7_shareEndorsed_1 ?_
  refine x_aload_n (pc := 4) C dX7_shareEndorsed_4 rfl rfl ?_
  obtain ⟨k, h⟩ := chk_s h
  have k2 := k
  obtain ⟨k, h⟩ := chk_s h
  refine x_getR (pc := 5) C fX7_20 rfl k2 k dX7_shareEndorsed_5 ?_
  refine x_aload_n (pc := 8) C dX7_shareEndorsed_8 rfl rfl ?_
  obtain ⟨k, h⟩ := chk_s h
  have k2 := k
  obtain ⟨k, h⟩ := chk_s h
  refine x_getR (pc := 9) C fX7_39 rfl k2 k dX7_shareEndorsed_9 ?_
  refine x_iload_n (pc := 12) C dX7_shareEndorsed_12 rfl rfl ?_
  obtain ⟨k, h⟩ := chk_s h
  have k2 := k
  obtain ⟨u0, σ1, k, h⟩ := bnd_s h
  refine x_callV0 (pc := 13) C (mX5_take E l k) cl4 k2 cX7_212 nX5_take sX5_take rfl rfl (Nat.le_of_ble_eq_true rfl) ⟨Nat.le_of_ble_eq_true rfl, Nat.le_of_ble_eq_true rfl, Nat.le_of_ble_eq_true rfl, Nat.le_of_ble_eq_true rfl⟩ dX7_shareEndorsed_13 ?_
  refine x_aload_n (pc := 16) C dX7_shareEndorsed_16 rfl rfl ?_
  obtain ⟨k, h⟩ := chk_s h
  have k2 := k
  obtain ⟨k, h⟩ := chk_s h
  refine x_getR (pc := 17) C fX7_48 rfl k2 k dX7_shareEndorsed_17 ?_
  obtain ⟨k, h⟩ := chk_s h
  have k2 := k
  obtain ⟨k, h⟩ := chk_s h
  refine x_getR (pc := 20) C fX7_228 rfl k2 k dX7_shareEndorsed_20 ?_
  refine x_iload_n (pc := 23) C dX7_shareEndorsed_23 rfl rfl ?_
  refine x_iload_n (pc := 24) C dX7_shareEndorsed_24 rfl rfl ?_
  obtain ⟨k, h⟩ := chk_s h
  obtain ⟨σ2, e1, h⟩ := wlet_s h
  refine x_iast (pc := 25) C k dX7_shareEndorsed_25 (x_eq e1 ?_)
  refine x_aload_n (pc := 26) C dX7_shareEndorsed_26 rfl rfl ?_
  obtain ⟨k, h⟩ := chk_s h
  have k2 := k
  obtain ⟨k, h⟩ := chk_s h
  refine x_getR (pc := 27) C fX7_48 rfl k2 k dX7_shareEndorsed_27 ?_
  obtain ⟨k, h⟩ := chk_s h
  have k2 := k
  obtain ⟨u0, σ3, k, h⟩ := bnd_s h
  refine x_callV0 (pc := 30) C (mX5_prorate E l k) cl4 k2 cX7_216 nX5_prorate sX5_prorate rfl rfl (Nat.le_of_ble_eq_true rfl) ⟨Nat.le_of_ble_eq_true rfl, Nat.le_of_ble_eq_true rfl, Nat.le_of_ble_eq_true rfl, Nat.le_of_ble_eq_true rfl⟩ dX7_shareEndorsed_30 ?_
  refine x_aload_n (pc := 33) C dX7_shareEndorsed_33 rfl rfl ?_
  obtain ⟨k, h⟩ := chk_s h
  have k2 := k
  obtain ⟨k, h⟩ := chk_s h
  refine x_getR (pc := 34) C fX7_48 rfl k2 k dX7_shareEndorsed_34 ?_
  obtain ⟨k, h⟩ := chk_s h
  have k2 := k
  obtain ⟨k, h⟩ := chk_s h
  refine x_getR (pc := 37) C fX7_225 rfl k2 k dX7_shareEndorsed_37 ?_
  refine x_iload_n (pc := 40) C dX7_shareEndorsed_40 rfl rfl ?_
  obtain ⟨k, h⟩ := chk_s h
  refine x_iald (pc := 41) C k dX7_shareEndorsed_41 ?_
  cases h
  exact x_iret C hr dX7_shareEndorsed_42
def DX7_share_19 (s0 : Int32) (σ : Sg) : Option (Int32 × Sg) :=
  some (s0, σ)
theorem tX7_share_19 {r : Int32} {σ' : Sg} (C : Cx E p s m args meth c RX7 cX7_share 3) (hr : meth.sig.returnType = (some .int)) {s0 : Int32} {σ : Sg} (h : DX7_share_19 s0 σ = some (r, σ')) : Y E p l e (rmA 7 0 0) s m args below meth c (some (.int r)) σ' 0 0 3 0 0 σ 19 [none, none, none] [.int s0] := by
  unfold DX7_share_19 at h
  cases h
  exact x_iret C hr dX7_share_19
def DX7_share (l0 : Nat) (l1 : Int32) (l2 : Int32) (σ : Sg) : Option (Int32 × Sg) :=
  chk (ckO σ 5 l0) <|
  bnd (DX7_isCoupon l0 l1 l2 σ) fun v1 σ2 =>
  if v1 = 0 then
    DX7_share_19 (-1 : Int32) σ2
  else
    chk (ckO σ2 5 l0) <|
    bnd (DX7_shareNow l0 l1 l2 σ2) fun v3 σ4 =>
    DX7_share_19 v3 σ4
theorem mX7_share (E : Ev) (l : Launch) {l0 : Nat} {l1 : Int32} {l2 : Int32} {σ : Sg} {r : Int32} {σ' : Sg} (h : DX7_share l0 l1 l2 σ = some (r, σ')) : Mt E l yX7_share cX7_share 3 (some .int) 7 0 0 [.ref (ad E l0), .int l1, .int l2] σ (some (.int r)) σ' := by
  refine Mt.ofX (by decide) (Nat.le_of_ble_eq_true rfl) (L0 := [some (.ref (ad E l0)), some (.int l1), some (.int l2)]) (xEntN_ok [.ref (ad E l0), .int l1, .int l2] 3) (fun p e s m args below meth c C hr hn => ?_)
  unfold DX7_share at h
  refine x_aload_n (pc := 0) C dX7_share_0 rfl rfl ?_
  refine x_iload_n (pc := 1) C dX7_share_1 rfl rfl ?_
  refine x_iload_n (pc := 2) C dX7_share_2 rfl rfl ?_
  obtain ⟨k, h⟩ := chk_s h
  have k2 := k
  obtain ⟨v1, σ2, k, h⟩ := bnd_s h
  refine x_callV1 (pc := 3) C (mX7_isCoupon E l k) cl5 k2 cX7_197 nX7_isCoupon sX7_isCoupon rfl rfl (Nat.le_of_ble_eq_true rfl) ⟨Nat.le_of_ble_eq_true rfl, Nat.le_of_ble_eq_true rfl, Nat.le_of_ble_eq_true rfl, Nat.le_of_ble_eq_true rfl⟩ dX7_share_3 ?_
  refine x_if_eq (pc := 6) (tgt := 18) C dX7_share_6 (by decide) (fun q => ?_) (fun q => ?_)
  · rw [if_pos q] at h
    refine x_iconst (v := -1) (pc := 18) C dX7_share_18 (by decide) ?_
    exact x_sub (tX7_share_19 C hr h) (xLe_n (xLe_n (xLe_n xLe_0)))
  · rw [if_neg q] at h
    refine x_aload_n (pc := 9) C dX7_share_9 rfl rfl ?_
    refine x_iload_n (pc := 10) C dX7_share_10 rfl rfl ?_
    refine x_iload_n (pc := 11) C dX7_share_11 rfl rfl ?_
    obtain ⟨k, h⟩ := chk_s h
    have k2 := k
    obtain ⟨v3, σ4, k, h⟩ := bnd_s h
    refine x_callV1 (pc := 12) C (mX7_shareNow E l k) cl5 k2 cX7_230 nX7_shareNow sX7_shareNow rfl rfl (Nat.le_of_ble_eq_true rfl) ⟨Nat.le_of_ble_eq_true rfl, Nat.le_of_ble_eq_true rfl, Nat.le_of_ble_eq_true rfl, Nat.le_of_ble_eq_true rfl⟩ dX7_share_12 ?_
    refine x_goto (tgt := 19) (pc := 15) C dX7_share_15 (by decide) ?_
    exact x_sub (tX7_share_19 C hr h) (xLe_n (xLe_n (xLe_n xLe_0)))
def DX7_carried_16 (σ : Sg) : Option (Int32 × Sg) :=
  some ((-1 : Int32), σ)
theorem tX7_carried_16 {r : Int32} {σ' : Sg} (C : Cx E p s m args meth c RX7 cX7_carried 5) (hr : meth.sig.returnType = (some .int)) {σ : Sg} (h : DX7_carried_16  σ = some (r, σ')) : Y E p l e (rmA 6 0 0) s m args below meth c (some (.int r)) σ' 0 0 5 0 0 σ 16 [none, none, none, none, none] [] := by
  unfold DX7_carried_16 at h
  refine x_iconst (v := -1) (pc := 16) C dX7_carried_16 (by decide) ?_
  cases h
  exact x_iret C hr dX7_carried_17
def DX7_carried_67 (K28 : Nat → Int32 → Int32 → Int32 → Sg → Option (Int32 × Sg)) (l0 : Nat) (l2 : Int32) (l3 : Int32) (l4 : Int32) (σ : Sg) : Option (Int32 × Sg) :=
  K28 l0 l2 l3 (l4 + (1 : Int32)) σ
theorem tX7_carried_67 {r : Int32} {σ' : Sg} (C : Cx E p s m args meth c RX7 cX7_carried 5) (hr : meth.sig.returnType = (some .int)) {K28 : Nat → Int32 → Int32 → Int32 → Sg → Option (Int32 × Sg)} (hK28 : ∀ (l0 : Nat) (l2 : Int32) (l3 : Int32) (l4 : Int32) (σ : Sg), K28 l0 l2 l3 l4 σ = some (r, σ') → Y E p l e (rmA 6 0 0) s m args below meth c (some (.int r)) σ' 0 0 5 0 0 σ 28 [some (.ref (ad E l0)), none, some (.int l2), some (.int l3), some (.int l4)] []) {l0 : Nat} {l2 : Int32} {l3 : Int32} {l4 : Int32} {σ : Sg} (h : DX7_carried_67 K28 l0 l2 l3 l4 σ = some (r, σ')) : Y E p l e (rmA 6 0 0) s m args below meth c (some (.int r)) σ' 0 0 5 0 0 σ 67 [some (.ref (ad E l0)), none, some (.int l2), some (.int l3), some (.int l4)] [] := by
  unfold DX7_carried_67 at h
  refine x_iinc (v := 1) (M := [some _, none, some _, some _, some _]) (pc := 67) C dX7_carried_67 rfl (by decide) (by decide) rfl ?_
  refine x_goto (tgt := 28) (pc := 70) C dX7_carried_70 (by decide) ?_
  exact x_sub (hK28 _ _ _ _ _ h) (xLe_s (xLe_n (xLe_s (xLe_s (xLe_s xLe_0)))))
def DX7_carried_73 (l3 : Int32) (σ : Sg) : Option (Int32 × Sg) :=
  some (l3, σ)
theorem tX7_carried_73 {r : Int32} {σ' : Sg} (C : Cx E p s m args meth c RX7 cX7_carried 5) (hr : meth.sig.returnType = (some .int)) {l3 : Int32} {σ : Sg} (h : DX7_carried_73 l3 σ = some (r, σ')) : Y E p l e (rmA 6 0 0) s m args below meth c (some (.int r)) σ' 0 0 5 0 0 σ 73 [none, none, none, some (.int l3), none] [] := by
  unfold DX7_carried_73 at h
  refine x_iload_n (pc := 73) C dX7_carried_73 rfl rfl ?_
  cases h
  exact x_iret C hr dX7_carried_74
def DX7_carried_28 : Nat → Nat → Int32 → Int32 → Int32 → Sg → Option (Int32 × Sg)
  | 0, _, _, _, _, _ => none
  | n + 1, l0, l2, l3, l4, σ =>
    chk (ckO σ 5 l0) <|
    chk (ckV (gR σ l0 6)) <|
    chk (ckO σ 4 (gR σ l0 6)) <|
    if (gI σ (gR σ l0 6) 2) ≤ l4 then
      DX7_carried_73 l3 σ
    else
      chk (ckO σ 5 l0) <|
      chk (ckV (gR σ l0 6)) <|
      chk (ckO σ 4 (gR σ l0 6)) <|
      chk (ckV (gR σ (gR σ l0 6) 6)) <|
      chk (ckI σ (gR σ (gR σ l0 6) 6) l4) <|
      if (aI σ (gR σ (gR σ l0 6) 6) l4.toNatClampNeg) = l2 then
        chk (ckO σ 5 l0) <|
        chk (ckV (gR σ l0 6)) <|
        chk (ckO σ 4 (gR σ l0 6)) <|
        chk (ckV (gR σ (gR σ l0 6) 12)) <|
        chk (ckI σ (gR σ (gR σ l0 6) 12) l4) <|
        DX7_carried_67 (DX7_carried_28 n) l0 l2 (l3 + (aI σ (gR σ (gR σ l0 6) 12) l4.toNatClampNeg)) l4 σ
      else
        DX7_carried_67 (DX7_carried_28 n) l0 l2 l3 l4 σ
theorem tX7_carried_28 {r : Int32} {σ' : Sg} (C : Cx E p s m args meth c RX7 cX7_carried 5) (hr : meth.sig.returnType = (some .int)) : ∀ (n : Nat) (l0 : Nat) (l2 : Int32) (l3 : Int32) (l4 : Int32) (σ : Sg) (h : DX7_carried_28 n l0 l2 l3 l4 σ = some (r, σ')), Y E p l e (rmA 6 0 0) s m args below meth c (some (.int r)) σ' 0 0 5 0 0 σ 28 [some (.ref (ad E l0)), none, some (.int l2), some (.int l3), some (.int l4)] [] := by
  intro n
  induction n with
  | zero => intro l0 l2 l3 l4 σ h; cases h
  | succ n ih =>
    intro l0 l2 l3 l4 σ h
    unfold DX7_carried_28 at h
    refine x_iload (pc := 28) C dX7_carried_28 rfl ?_
    refine x_aload_n (pc := 30) C dX7_carried_30 rfl rfl ?_
    obtain ⟨k, h⟩ := chk_s h
    have k2 := k
    obtain ⟨k, h⟩ := chk_s h
    refine x_getR (pc := 31) C fX7_48 rfl k2 k dX7_carried_31 ?_
    obtain ⟨k, h⟩ := chk_s h
    refine x_getI (pc := 34) C fX7_161 rfl k dX7_carried_34 ?_
    refine x_icmp_ge (pc := 37) (tgt := 73) C dX7_carried_37 (by decide) (fun q => ?_) (fun q => ?_)
    · rw [if_pos q] at h
      exact x_sub (tX7_carried_73 C hr h) (xLe_n (xLe_n (xLe_n (xLe_s (xLe_n xLe_0)))))
    · rw [if_neg q] at h
      refine x_aload_n (pc := 40) C dX7_carried_40 rfl rfl ?_
      obtain ⟨k, h⟩ := chk_s h
      have k2 := k
      obtain ⟨k, h⟩ := chk_s h
      refine x_getR (pc := 41) C fX7_48 rfl k2 k dX7_carried_41 ?_
      obtain ⟨k, h⟩ := chk_s h
      have k2 := k
      obtain ⟨k, h⟩ := chk_s h
      refine x_getR (pc := 44) C fX7_228 rfl k2 k dX7_carried_44 ?_
      refine x_iload (pc := 47) C dX7_carried_47 rfl ?_
      obtain ⟨k, h⟩ := chk_s h
      refine x_iald (pc := 49) C k dX7_carried_49 ?_
      refine x_iload_n (pc := 50) C dX7_carried_50 rfl rfl ?_
      refine x_icmp_ne (pc := 51) (tgt := 67) C dX7_carried_51 (by decide) (fun q => ?_) (fun q => ?_)
      · rw [if_pos q] at h
        refine x_iload_n (pc := 54) C dX7_carried_54 rfl rfl ?_
        refine x_aload_n (pc := 55) C dX7_carried_55 rfl rfl ?_
        obtain ⟨k, h⟩ := chk_s h
        have k2 := k
        obtain ⟨k, h⟩ := chk_s h
        refine x_getR (pc := 56) C fX7_48 rfl k2 k dX7_carried_56 ?_
        obtain ⟨k, h⟩ := chk_s h
        have k2 := k
        obtain ⟨k, h⟩ := chk_s h
        refine x_getR (pc := 59) C fX7_225 rfl k2 k dX7_carried_59 ?_
        refine x_iload (pc := 62) C dX7_carried_62 rfl ?_
        obtain ⟨k, h⟩ := chk_s h
        refine x_iald (pc := 64) C k dX7_carried_64 ?_
        refine x_iadd (pc := 65) C dX7_carried_65 ?_
        refine x_istore_n (M := [some _, none, some _, some _, some _]) (pc := 66) C dX7_carried_66 rfl (by decide) rfl ?_
        exact x_sub (tX7_carried_67 C hr ih h) (xLe_s (xLe_n (xLe_s (xLe_s (xLe_s xLe_0)))))
      · rw [if_neg q] at h
        exact x_sub (tX7_carried_67 C hr ih h) (xLe_s (xLe_n (xLe_s (xLe_s (xLe_s xLe_0)))))
def DX7_carried (l0 : Nat) (l1 : Int32) (l2 : Int32) (σ : Sg) : Option (Int32 × Sg) :=
  chk (ckO σ 5 l0) <|
  bnd (DX7_isTicket l0 l1 σ) fun v1 σ2 =>
  if v1 = 0 then
    DX7_carried_16 σ2
  else
    chk (ckO σ2 5 l0) <|
    bnd (DX7_isCarrier l0 l2 σ2) fun v3 σ4 =>
    if v3 = 0 then
      DX7_carried_16 σ4
    else
      chk (ckO σ4 5 l0) <|
      bnd (DX7_prorateNow l0 l1 σ4) fun _ σ5 =>
      DX7_carried_28 FU l0 l2 (0 : Int32) (0 : Int32) σ5
theorem mX7_carried (E : Ev) (l : Launch) {l0 : Nat} {l1 : Int32} {l2 : Int32} {σ : Sg} {r : Int32} {σ' : Sg} (h : DX7_carried l0 l1 l2 σ = some (r, σ')) : Mt E l yX7_carried cX7_carried 5 (some .int) 6 0 0 [.ref (ad E l0), .int l1, .int l2] σ (some (.int r)) σ' := by
  refine Mt.ofX (by decide) (Nat.le_of_ble_eq_true rfl) (L0 := [some (.ref (ad E l0)), some (.int l1), some (.int l2), none, none]) (xEntN_ok [.ref (ad E l0), .int l1, .int l2] 5) (fun p e s m args below meth c C hr hn => ?_)
  unfold DX7_carried at h
  refine x_aload_n (pc := 0) C dX7_carried_0 rfl rfl ?_
  refine x_iload_n (pc := 1) C dX7_carried_1 rfl rfl ?_
  obtain ⟨k, h⟩ := chk_s h
  have k2 := k
  obtain ⟨v1, σ2, k, h⟩ := bnd_s h
  refine x_callV1 (pc := 2) C (mX7_isTicket E l k) cl5 k2 cX7_103 nX7_isTicket sX7_isTicket rfl rfl (Nat.le_of_ble_eq_true rfl) ⟨Nat.le_of_ble_eq_true rfl, Nat.le_of_ble_eq_true rfl, Nat.le_of_ble_eq_true rfl, Nat.le_of_ble_eq_true rfl⟩ dX7_carried_2 ?_
  refine x_if_eq (pc := 5) (tgt := 16) C dX7_carried_5 (by decide) (fun q => ?_) (fun q => ?_)
  · rw [if_pos q] at h
    exact x_sub (tX7_carried_16 C hr h) (xLe_n (xLe_n (xLe_n (xLe_n (xLe_n xLe_0)))))
  · rw [if_neg q] at h
    refine x_aload_n (pc := 8) C dX7_carried_8 rfl rfl ?_
    refine x_iload_n (pc := 9) C dX7_carried_9 rfl rfl ?_
    obtain ⟨k, h⟩ := chk_s h
    have k2 := k
    obtain ⟨v3, σ4, k, h⟩ := bnd_s h
    refine x_callV1 (pc := 10) C (mX7_isCarrier E l k) cl5 k2 cX7_130 nX7_isCarrier sX7_isCarrier rfl rfl (Nat.le_of_ble_eq_true rfl) ⟨Nat.le_of_ble_eq_true rfl, Nat.le_of_ble_eq_true rfl, Nat.le_of_ble_eq_true rfl, Nat.le_of_ble_eq_true rfl⟩ dX7_carried_10 ?_
    refine x_if_ne (pc := 13) (tgt := 18) C dX7_carried_13 (by decide) (fun q => ?_) (fun q => ?_)
    · rw [if_pos q] at h
      exact x_sub (tX7_carried_16 C hr h) (xLe_n (xLe_n (xLe_n (xLe_n (xLe_n xLe_0)))))
    · rw [if_neg q] at h
      refine x_aload_n (pc := 18) C dX7_carried_18 rfl rfl ?_
      refine x_iload_n (pc := 19) C dX7_carried_19 rfl rfl ?_
      obtain ⟨k, h⟩ := chk_s h
      have k2 := k
      obtain ⟨u0, σ5, k, h⟩ := bnd_s h
      refine x_callV0 (pc := 20) C (mX7_prorateNow E l k) cl5 k2 cX7_158 nX7_prorateNow sX7_prorateNow rfl rfl (Nat.le_of_ble_eq_true rfl) ⟨Nat.le_of_ble_eq_true rfl, Nat.le_of_ble_eq_true rfl, Nat.le_of_ble_eq_true rfl, Nat.le_of_ble_eq_true rfl⟩ dX7_carried_20 ?_
      refine x_iconst (v := 0) (pc := 23) C dX7_carried_23 (by decide) ?_
      refine x_istore_n (M := [some _, some _, some _, some _, none]) (pc := 24) C dX7_carried_24 rfl (by decide) rfl ?_
      refine x_iconst (v := 0) (pc := 25) C dX7_carried_25 (by decide) ?_
      refine x_istore (M := [some _, some _, some _, some _, some _]) (pc := 26) C dX7_carried_26 (by decide) rfl ?_
      exact x_sub (tX7_carried_28 C hr FU _ _ _ _ _ h) (xLe_s (xLe_n (xLe_s (xLe_s (xLe_s xLe_0)))))
def DX7_rounds (l0 : Nat) (l1 : Int32) (σ : Sg) : Option (Int32 × Sg) :=
  chk (ckO σ 5 l0) <|
  bnd (DX7_isTicket l0 l1 σ) fun v1 σ2 =>
  if v1 = 0 then
    some ((-1 : Int32), σ2)
  else
    chk (ckO σ2 5 l0) <|
    bnd (DX7_prorateNow l0 l1 σ2) fun _ σ3 =>
    chk (ckO σ3 5 l0) <|
    chk (ckV (gR σ3 l0 6)) <|
    chk (ckO σ3 4 (gR σ3 l0 6)) <|
    some ((gI σ3 (gR σ3 l0 6) 16), σ3)
theorem mX7_rounds (E : Ev) (l : Launch) {l0 : Nat} {l1 : Int32} {σ : Sg} {r : Int32} {σ' : Sg} (h : DX7_rounds l0 l1 σ = some (r, σ')) : Mt E l yX7_rounds cX7_rounds 2 (some .int) 6 0 0 [.ref (ad E l0), .int l1] σ (some (.int r)) σ' := by
  refine Mt.ofX (by decide) (Nat.le_of_ble_eq_true rfl) (L0 := [some (.ref (ad E l0)), some (.int l1)]) (xEntN_ok [.ref (ad E l0), .int l1] 2) (fun p e s m args below meth c C hr hn => ?_)
  unfold DX7_rounds at h
  refine x_aload_n (pc := 0) C dX7_rounds_0 rfl rfl ?_
  refine x_iload_n (pc := 1) C dX7_rounds_1 rfl rfl ?_
  obtain ⟨k, h⟩ := chk_s h
  have k2 := k
  obtain ⟨v1, σ2, k, h⟩ := bnd_s h
  refine x_callV1 (pc := 2) C (mX7_isTicket E l k) cl5 k2 cX7_103 nX7_isTicket sX7_isTicket rfl rfl (Nat.le_of_ble_eq_true rfl) ⟨Nat.le_of_ble_eq_true rfl, Nat.le_of_ble_eq_true rfl, Nat.le_of_ble_eq_true rfl, Nat.le_of_ble_eq_true rfl⟩ dX7_rounds_2 ?_
  refine x_if_ne (pc := 5) (tgt := 10) C dX7_rounds_5 (by decide) (fun q => ?_) (fun q => ?_)
  · rw [if_pos q] at h
    refine x_iconst (v := -1) (pc := 8) C dX7_rounds_8 (by decide) ?_
    cases h
    exact x_iret C hr dX7_rounds_9
  · rw [if_neg q] at h
    refine x_aload_n (pc := 10) C dX7_rounds_10 rfl rfl ?_
    refine x_iload_n (pc := 11) C dX7_rounds_11 rfl rfl ?_
    obtain ⟨k, h⟩ := chk_s h
    have k2 := k
    obtain ⟨u0, σ3, k, h⟩ := bnd_s h
    refine x_callV0 (pc := 12) C (mX7_prorateNow E l k) cl5 k2 cX7_158 nX7_prorateNow sX7_prorateNow rfl rfl (Nat.le_of_ble_eq_true rfl) ⟨Nat.le_of_ble_eq_true rfl, Nat.le_of_ble_eq_true rfl, Nat.le_of_ble_eq_true rfl, Nat.le_of_ble_eq_true rfl⟩ dX7_rounds_12 ?_
    refine x_aload_n (pc := 15) C dX7_rounds_15 rfl rfl ?_
    obtain ⟨k, h⟩ := chk_s h
    have k2 := k
    obtain ⟨k, h⟩ := chk_s h
    refine x_getR (pc := 16) C fX7_48 rfl k2 k dX7_rounds_16 ?_
    obtain ⟨k, h⟩ := chk_s h
    refine x_getI (pc := 19) C fX7_233 rfl k dX7_rounds_19 ?_
    cases h
    exact x_iret C hr dX7_rounds_22
def DX7_left (l0 : Nat) (l1 : Int32) (σ : Sg) : Option (Int32 × Sg) :=
  chk (ckO σ 5 l0) <|
  bnd (DX7_isTicket l0 l1 σ) fun v1 σ2 =>
  if v1 = 0 then
    some ((-1 : Int32), σ2)
  else
    chk (ckO σ2 5 l0) <|
    bnd (DX7_prorateNow l0 l1 σ2) fun _ σ3 =>
    chk (ckO σ3 5 l0) <|
    chk (ckV (gR σ3 l0 6)) <|
    chk (ckO σ3 4 (gR σ3 l0 6)) <|
    some ((gI σ3 (gR σ3 l0 6) 17), σ3)
theorem mX7_left (E : Ev) (l : Launch) {l0 : Nat} {l1 : Int32} {σ : Sg} {r : Int32} {σ' : Sg} (h : DX7_left l0 l1 σ = some (r, σ')) : Mt E l yX7_left cX7_left 2 (some .int) 6 0 0 [.ref (ad E l0), .int l1] σ (some (.int r)) σ' := by
  refine Mt.ofX (by decide) (Nat.le_of_ble_eq_true rfl) (L0 := [some (.ref (ad E l0)), some (.int l1)]) (xEntN_ok [.ref (ad E l0), .int l1] 2) (fun p e s m args below meth c C hr hn => ?_)
  unfold DX7_left at h
  refine x_aload_n (pc := 0) C dX7_left_0 rfl rfl ?_
  refine x_iload_n (pc := 1) C dX7_left_1 rfl rfl ?_
  obtain ⟨k, h⟩ := chk_s h
  have k2 := k
  obtain ⟨v1, σ2, k, h⟩ := bnd_s h
  refine x_callV1 (pc := 2) C (mX7_isTicket E l k) cl5 k2 cX7_103 nX7_isTicket sX7_isTicket rfl rfl (Nat.le_of_ble_eq_true rfl) ⟨Nat.le_of_ble_eq_true rfl, Nat.le_of_ble_eq_true rfl, Nat.le_of_ble_eq_true rfl, Nat.le_of_ble_eq_true rfl⟩ dX7_left_2 ?_
  refine x_if_ne (pc := 5) (tgt := 10) C dX7_left_5 (by decide) (fun q => ?_) (fun q => ?_)
  · rw [if_pos q] at h
    refine x_iconst (v := -1) (pc := 8) C dX7_left_8 (by decide) ?_
    cases h
    exact x_iret C hr dX7_left_9
  · rw [if_neg q] at h
    refine x_aload_n (pc := 10) C dX7_left_10 rfl rfl ?_
    refine x_iload_n (pc := 11) C dX7_left_11 rfl rfl ?_
    obtain ⟨k, h⟩ := chk_s h
    have k2 := k
    obtain ⟨u0, σ3, k, h⟩ := bnd_s h
    refine x_callV0 (pc := 12) C (mX7_prorateNow E l k) cl5 k2 cX7_158 nX7_prorateNow sX7_prorateNow rfl rfl (Nat.le_of_ble_eq_true rfl) ⟨Nat.le_of_ble_eq_true rfl, Nat.le_of_ble_eq_true rfl, Nat.le_of_ble_eq_true rfl, Nat.le_of_ble_eq_true rfl⟩ dX7_left_12 ?_
    refine x_aload_n (pc := 15) C dX7_left_15 rfl rfl ?_
    obtain ⟨k, h⟩ := chk_s h
    have k2 := k
    obtain ⟨k, h⟩ := chk_s h
    refine x_getR (pc := 16) C fX7_48 rfl k2 k dX7_left_16 ?_
    obtain ⟨k, h⟩ := chk_s h
    refine x_getI (pc := 19) C fX7_236 rfl k dX7_left_19 ?_
    cases h
    exact x_iret C hr dX7_left_22
def DX7_straight (l0 : Nat) (l1 : Int32) (l2 : Int32) (σ : Sg) : Option (Int32 × Sg) :=
  chk (ckO σ 5 l0) <|
  bnd (DX7_isCoupon l0 l1 l2 σ) fun v1 σ2 =>
  if v1 = 0 then
    some ((-1 : Int32), σ2)
  else
    chk (ckO σ2 5 l0) <|
    bnd (DX7_prorateStraight l0 l1 σ2) fun _ σ3 =>
    chk (ckO σ3 5 l0) <|
    chk (ckV (gR σ3 l0 6)) <|
    chk (ckO σ3 4 (gR σ3 l0 6)) <|
    chk (ckV (gR σ3 (gR σ3 l0 6) 12)) <|
    chk (ckI σ3 (gR σ3 (gR σ3 l0 6) 12) l2) <|
    some ((aI σ3 (gR σ3 (gR σ3 l0 6) 12) l2.toNatClampNeg), σ3)
theorem mX7_straight (E : Ev) (l : Launch) {l0 : Nat} {l1 : Int32} {l2 : Int32} {σ : Sg} {r : Int32} {σ' : Sg} (h : DX7_straight l0 l1 l2 σ = some (r, σ')) : Mt E l yX7_straight cX7_straight 3 (some .int) 6 0 0 [.ref (ad E l0), .int l1, .int l2] σ (some (.int r)) σ' := by
  refine Mt.ofX (by decide) (Nat.le_of_ble_eq_true rfl) (L0 := [some (.ref (ad E l0)), some (.int l1), some (.int l2)]) (xEntN_ok [.ref (ad E l0), .int l1, .int l2] 3) (fun p e s m args below meth c C hr hn => ?_)
  unfold DX7_straight at h
  refine x_aload_n (pc := 0) C dX7_straight_0 rfl rfl ?_
  refine x_iload_n (pc := 1) C dX7_straight_1 rfl rfl ?_
  refine x_iload_n (pc := 2) C dX7_straight_2 rfl rfl ?_
  obtain ⟨k, h⟩ := chk_s h
  have k2 := k
  obtain ⟨v1, σ2, k, h⟩ := bnd_s h
  refine x_callV1 (pc := 3) C (mX7_isCoupon E l k) cl5 k2 cX7_197 nX7_isCoupon sX7_isCoupon rfl rfl (Nat.le_of_ble_eq_true rfl) ⟨Nat.le_of_ble_eq_true rfl, Nat.le_of_ble_eq_true rfl, Nat.le_of_ble_eq_true rfl, Nat.le_of_ble_eq_true rfl⟩ dX7_straight_3 ?_
  refine x_if_ne (pc := 6) (tgt := 11) C dX7_straight_6 (by decide) (fun q => ?_) (fun q => ?_)
  · rw [if_pos q] at h
    refine x_iconst (v := -1) (pc := 9) C dX7_straight_9 (by decide) ?_
    cases h
    exact x_iret C hr dX7_straight_10
  · rw [if_neg q] at h
    refine x_aload_n (pc := 11) C dX7_straight_11 rfl rfl ?_
    refine x_iload_n (pc := 12) C dX7_straight_12 rfl rfl ?_
    obtain ⟨k, h⟩ := chk_s h
    have k2 := k
    obtain ⟨u0, σ3, k, h⟩ := bnd_s h
    refine x_callV0 (pc := 13) C (mX7_prorateStraight E l k) cl5 k2 cX7_239 nX7_prorateStraight sX7_prorateStraight rfl rfl (Nat.le_of_ble_eq_true rfl) ⟨Nat.le_of_ble_eq_true rfl, Nat.le_of_ble_eq_true rfl, Nat.le_of_ble_eq_true rfl, Nat.le_of_ble_eq_true rfl⟩ dX7_straight_13 ?_
    refine x_aload_n (pc := 16) C dX7_straight_16 rfl rfl ?_
    obtain ⟨k, h⟩ := chk_s h
    have k2 := k
    obtain ⟨k, h⟩ := chk_s h
    refine x_getR (pc := 17) C fX7_48 rfl k2 k dX7_straight_17 ?_
    obtain ⟨k, h⟩ := chk_s h
    have k2 := k
    obtain ⟨k, h⟩ := chk_s h
    refine x_getR (pc := 20) C fX7_225 rfl k2 k dX7_straight_20 ?_
    refine x_iload_n (pc := 23) C dX7_straight_23 rfl rfl ?_
    obtain ⟨k, h⟩ := chk_s h
    refine x_iald (pc := 24) C k dX7_straight_24 ?_
    cases h
    exact x_iret C hr dX7_straight_25
def DX7_other_46 (l0 : Nat) (l2 : Int32) (s0 : Nat) (s1 : Int32) (σ : Sg) : Option (Int32 × Sg) :=
  chk (ckO σ 4 s0) <|
  wlet (pI σ s0 4 s1) fun σ1 =>
  chk (ckO σ1 5 l0) <|
  chk (ckV (gR σ1 l0 6)) <|
  chk (ckO σ1 4 (gR σ1 l0 6)) <|
  bnd (DX5_prorate (gR σ1 l0 6) σ1) fun _ σ2 =>
  chk (ckO σ2 5 l0) <|
  chk (ckV (gR σ2 l0 6)) <|
  chk (ckO σ2 4 (gR σ2 l0 6)) <|
  chk (ckV (gR σ2 (gR σ2 l0 6) 12)) <|
  chk (ckI σ2 (gR σ2 (gR σ2 l0 6) 12) l2) <|
  some ((aI σ2 (gR σ2 (gR σ2 l0 6) 12) l2.toNatClampNeg), σ2)
theorem tX7_other_46 {r : Int32} {σ' : Sg} (C : Cx E p s m args meth c RX7 cX7_other 3) (hr : meth.sig.returnType = (some .int)) {l0 : Nat} {l2 : Int32} {s0 : Nat} {s1 : Int32} {σ : Sg} (h : DX7_other_46 l0 l2 s0 s1 σ = some (r, σ')) : Y E p l e (rmA 5 0 0) s m args below meth c (some (.int r)) σ' 0 0 3 0 0 σ 46 [some (.ref (ad E l0)), none, some (.int l2)] [.int s1, .ref (ad E s0)] := by
  unfold DX7_other_46 at h
  obtain ⟨k, h⟩ := chk_s h
  obtain ⟨σ1, e1, h⟩ := wlet_s h
  refine x_putI (pc := 46) C pX7_242 rfl k dX7_other_46 (x_eq e1 ?_)
  refine x_aload_n (pc := 49) C dX7_other_49 rfl rfl ?_
  obtain ⟨k, h⟩ := chk_s h
  have k2 := k
  obtain ⟨k, h⟩ := chk_s h
  refine x_getR (pc := 50) C fX7_48 rfl k2 k dX7_other_50 ?_
  obtain ⟨k, h⟩ := chk_s h
  have k2 := k
  obtain ⟨u0, σ2, k, h⟩ := bnd_s h
  refine x_callV0 (pc := 53) C (mX5_prorate E l k) cl4 k2 cX7_216 nX5_prorate sX5_prorate rfl rfl (Nat.le_of_ble_eq_true rfl) ⟨Nat.le_of_ble_eq_true rfl, Nat.le_of_ble_eq_true rfl, Nat.le_of_ble_eq_true rfl, Nat.le_of_ble_eq_true rfl⟩ dX7_other_53 ?_
  refine x_aload_n (pc := 56) C dX7_other_56 rfl rfl ?_
  obtain ⟨k, h⟩ := chk_s h
  have k2 := k
  obtain ⟨k, h⟩ := chk_s h
  refine x_getR (pc := 57) C fX7_48 rfl k2 k dX7_other_57 ?_
  obtain ⟨k, h⟩ := chk_s h
  have k2 := k
  obtain ⟨k, h⟩ := chk_s h
  refine x_getR (pc := 60) C fX7_225 rfl k2 k dX7_other_60 ?_
  refine x_iload_n (pc := 63) C dX7_other_63 rfl rfl ?_
  obtain ⟨k, h⟩ := chk_s h
  refine x_iald (pc := 64) C k dX7_other_64 ?_
  cases h
  exact x_iret C hr dX7_other_65
def DX7_other (l0 : Nat) (l1 : Int32) (l2 : Int32) (σ : Sg) : Option (Int32 × Sg) :=
  chk (ckO σ 5 l0) <|
  bnd (DX7_isCoupon l0 l1 l2 σ) fun v1 σ2 =>
  if v1 = 0 then
    some ((-1 : Int32), σ2)
  else
    chk (ckO σ2 5 l0) <|
    chk (ckV (gR σ2 l0 6)) <|
    chk (ckO σ2 5 l0) <|
    chk (ckV (gR σ2 l0 2)) <|
    chk (ckO σ2 5 l0) <|
    chk (ckV (gR σ2 l0 5)) <|
    chk (ckO σ2 4 (gR σ2 l0 6)) <|
    bnd (DX5_take (gR σ2 l0 6) (gR σ2 l0 2) (gR σ2 l0 5) l1 σ2) fun _ σ3 =>
    chk (ckO σ3 5 l0) <|
    chk (ckV (gR σ3 l0 6)) <|
    chk (ckO σ3 5 l0) <|
    chk (ckV (gR σ3 l0 6)) <|
    chk (ckO σ3 4 (gR σ3 l0 6)) <|
    if (gI σ3 (gR σ3 l0 6) 4) = 0 then
      DX7_other_46 l0 l2 (gR σ3 l0 6) (1 : Int32) σ3
    else
      DX7_other_46 l0 l2 (gR σ3 l0 6) (0 : Int32) σ3
theorem mX7_other (E : Ev) (l : Launch) {l0 : Nat} {l1 : Int32} {l2 : Int32} {σ : Sg} {r : Int32} {σ' : Sg} (h : DX7_other l0 l1 l2 σ = some (r, σ')) : Mt E l yX7_other cX7_other 3 (some .int) 5 0 0 [.ref (ad E l0), .int l1, .int l2] σ (some (.int r)) σ' := by
  refine Mt.ofX (by decide) (Nat.le_of_ble_eq_true rfl) (L0 := [some (.ref (ad E l0)), some (.int l1), some (.int l2)]) (xEntN_ok [.ref (ad E l0), .int l1, .int l2] 3) (fun p e s m args below meth c C hr hn => ?_)
  unfold DX7_other at h
  refine x_aload_n (pc := 0) C dX7_other_0 rfl rfl ?_
  refine x_iload_n (pc := 1) C dX7_other_1 rfl rfl ?_
  refine x_iload_n (pc := 2) C dX7_other_2 rfl rfl ?_
  obtain ⟨k, h⟩ := chk_s h
  have k2 := k
  obtain ⟨v1, σ2, k, h⟩ := bnd_s h
  refine x_callV1 (pc := 3) C (mX7_isCoupon E l k) cl5 k2 cX7_197 nX7_isCoupon sX7_isCoupon rfl rfl (Nat.le_of_ble_eq_true rfl) ⟨Nat.le_of_ble_eq_true rfl, Nat.le_of_ble_eq_true rfl, Nat.le_of_ble_eq_true rfl, Nat.le_of_ble_eq_true rfl⟩ dX7_other_3 ?_
  refine x_if_ne (pc := 6) (tgt := 11) C dX7_other_6 (by decide) (fun q => ?_) (fun q => ?_)
  · rw [if_pos q] at h
    refine x_iconst (v := -1) (pc := 9) C dX7_other_9 (by decide) ?_
    cases h
    exact x_iret C hr dX7_other_10
  · rw [if_neg q] at h
    refine x_aload_n (pc := 11) C dX7_other_11 rfl rfl ?_
    obtain ⟨k, h⟩ := chk_s h
    have k2 := k
    obtain ⟨k, h⟩ := chk_s h
    refine x_getR (pc := 12) C fX7_48 rfl k2 k dX7_other_12 ?_
    refine x_aload_n (pc := 15) C dX7_other_15 rfl rfl ?_
    obtain ⟨k, h⟩ := chk_s h
    have k2 := k
    obtain ⟨k, h⟩ := chk_s h
    refine x_getR (pc := 16) C fX7_20 rfl k2 k dX7_other_16 ?_
    refine x_aload_n (pc := 19) C dX7_other_19 rfl rfl ?_
    obtain ⟨k, h⟩ := chk_s h
    have k2 := k
    obtain ⟨k, h⟩ := chk_s h
    refine x_getR (pc := 20) C fX7_39 rfl k2 k dX7_other_20 ?_
    refine x_iload_n (pc := 23) C dX7_other_23 rfl rfl ?_
    obtain ⟨k, h⟩ := chk_s h
    have k2 := k
    obtain ⟨u0, σ3, k, h⟩ := bnd_s h
    refine x_callV0 (pc := 24) C (mX5_take E l k) cl4 k2 cX7_212 nX5_take sX5_take rfl rfl (Nat.le_of_ble_eq_true rfl) ⟨Nat.le_of_ble_eq_true rfl, Nat.le_of_ble_eq_true rfl, Nat.le_of_ble_eq_true rfl, Nat.le_of_ble_eq_true rfl⟩ dX7_other_24 ?_
    refine x_aload_n (pc := 27) C dX7_other_27 rfl rfl ?_
    obtain ⟨k, h⟩ := chk_s h
    have k2 := k
    obtain ⟨k, h⟩ := chk_s h
    refine x_getR (pc := 28) C fX7_48 rfl k2 k dX7_other_28 ?_
    refine x_aload_n (pc := 31) C dX7_other_31 rfl rfl ?_
    obtain ⟨k, h⟩ := chk_s h
    have k2 := k
    obtain ⟨k, h⟩ := chk_s h
    refine x_getR (pc := 32) C fX7_48 rfl k2 k dX7_other_32 ?_
    obtain ⟨k, h⟩ := chk_s h
    refine x_getI (pc := 35) C fX7_242 rfl k dX7_other_35 ?_
    refine x_if_ne (pc := 38) (tgt := 45) C dX7_other_38 (by decide) (fun q => ?_) (fun q => ?_)
    · rw [if_pos q] at h
      refine x_iconst (v := 1) (pc := 41) C dX7_other_41 (by decide) ?_
      refine x_goto (tgt := 46) (pc := 42) C dX7_other_42 (by decide) ?_
      exact x_sub (tX7_other_46 C hr h) (xLe_s (xLe_n (xLe_s xLe_0)))
    · rw [if_neg q] at h
      refine x_iconst (v := 0) (pc := 45) C dX7_other_45 (by decide) ?_
      exact x_sub (tX7_other_46 C hr h) (xLe_s (xLe_n (xLe_s xLe_0)))
def DX7_without_17 (σ : Sg) : Option (Int32 × Sg) :=
  some ((-1 : Int32), σ)
theorem tX7_without_17 {r : Int32} {σ' : Sg} (C : Cx E p s m args meth c RX7 cX7_without 4) (hr : meth.sig.returnType = (some .int)) {σ : Sg} (h : DX7_without_17  σ = some (r, σ')) : Y E p l e (rmA 6 0 0) s m args below meth c (some (.int r)) σ' 0 0 4 0 0 σ 17 [none, none, none, none] [] := by
  unfold DX7_without_17 at h
  refine x_iconst (v := -1) (pc := 17) C dX7_without_17 (by decide) ?_
  cases h
  exact x_iret C hr dX7_without_18
def DX7_without (l0 : Nat) (l1 : Int32) (l2 : Int32) (l3 : Int32) (σ : Sg) : Option (Int32 × Sg) :=
  chk (ckO σ 5 l0) <|
  bnd (DX7_isProviso l0 l1 σ) fun v1 σ2 =>
  if v1 = 0 then
    DX7_without_17 σ2
  else
    chk (ckO σ2 5 l0) <|
    bnd (DX7_isCoupon l0 l2 l3 σ2) fun v3 σ4 =>
    if v3 = 0 then
      DX7_without_17 σ4
    else
      chk (ckO σ4 5 l0) <|
      bnd (DX7_prorateWithout l0 l1 l2 σ4) fun _ σ5 =>
      chk (ckO σ5 5 l0) <|
      chk (ckV (gR σ5 l0 6)) <|
      chk (ckO σ5 4 (gR σ5 l0 6)) <|
      chk (ckV (gR σ5 (gR σ5 l0 6) 12)) <|
      chk (ckI σ5 (gR σ5 (gR σ5 l0 6) 12) l3) <|
      some ((aI σ5 (gR σ5 (gR σ5 l0 6) 12) l3.toNatClampNeg), σ5)
theorem mX7_without (E : Ev) (l : Launch) {l0 : Nat} {l1 : Int32} {l2 : Int32} {l3 : Int32} {σ : Sg} {r : Int32} {σ' : Sg} (h : DX7_without l0 l1 l2 l3 σ = some (r, σ')) : Mt E l yX7_without cX7_without 4 (some .int) 6 0 0 [.ref (ad E l0), .int l1, .int l2, .int l3] σ (some (.int r)) σ' := by
  refine Mt.ofX (by decide) (Nat.le_of_ble_eq_true rfl) (L0 := [some (.ref (ad E l0)), some (.int l1), some (.int l2), some (.int l3)]) (xEntN_ok [.ref (ad E l0), .int l1, .int l2, .int l3] 4) (fun p e s m args below meth c C hr hn => ?_)
  unfold DX7_without at h
  refine x_aload_n (pc := 0) C dX7_without_0 rfl rfl ?_
  refine x_iload_n (pc := 1) C dX7_without_1 rfl rfl ?_
  obtain ⟨k, h⟩ := chk_s h
  have k2 := k
  obtain ⟨v1, σ2, k, h⟩ := bnd_s h
  refine x_callV1 (pc := 2) C (mX7_isProviso E l k) cl5 k2 cX7_137 nX7_isProviso sX7_isProviso rfl rfl (Nat.le_of_ble_eq_true rfl) ⟨Nat.le_of_ble_eq_true rfl, Nat.le_of_ble_eq_true rfl, Nat.le_of_ble_eq_true rfl, Nat.le_of_ble_eq_true rfl⟩ dX7_without_2 ?_
  refine x_if_eq (pc := 5) (tgt := 17) C dX7_without_5 (by decide) (fun q => ?_) (fun q => ?_)
  · rw [if_pos q] at h
    exact x_sub (tX7_without_17 C hr h) (xLe_n (xLe_n (xLe_n (xLe_n xLe_0))))
  · rw [if_neg q] at h
    refine x_aload_n (pc := 8) C dX7_without_8 rfl rfl ?_
    refine x_iload_n (pc := 9) C dX7_without_9 rfl rfl ?_
    refine x_iload_n (pc := 10) C dX7_without_10 rfl rfl ?_
    obtain ⟨k, h⟩ := chk_s h
    have k2 := k
    obtain ⟨v3, σ4, k, h⟩ := bnd_s h
    refine x_callV1 (pc := 11) C (mX7_isCoupon E l k) cl5 k2 cX7_197 nX7_isCoupon sX7_isCoupon rfl rfl (Nat.le_of_ble_eq_true rfl) ⟨Nat.le_of_ble_eq_true rfl, Nat.le_of_ble_eq_true rfl, Nat.le_of_ble_eq_true rfl, Nat.le_of_ble_eq_true rfl⟩ dX7_without_11 ?_
    refine x_if_ne (pc := 14) (tgt := 19) C dX7_without_14 (by decide) (fun q => ?_) (fun q => ?_)
    · rw [if_pos q] at h
      exact x_sub (tX7_without_17 C hr h) (xLe_n (xLe_n (xLe_n (xLe_n xLe_0))))
    · rw [if_neg q] at h
      refine x_aload_n (pc := 19) C dX7_without_19 rfl rfl ?_
      refine x_iload_n (pc := 20) C dX7_without_20 rfl rfl ?_
      refine x_iload_n (pc := 21) C dX7_without_21 rfl rfl ?_
      obtain ⟨k, h⟩ := chk_s h
      have k2 := k
      obtain ⟨u0, σ5, k, h⟩ := bnd_s h
      refine x_callV0 (pc := 22) C (mX7_prorateWithout E l k) cl5 k2 cX7_245 nX7_prorateWithout sX7_prorateWithout rfl rfl (Nat.le_of_ble_eq_true rfl) ⟨Nat.le_of_ble_eq_true rfl, Nat.le_of_ble_eq_true rfl, Nat.le_of_ble_eq_true rfl, Nat.le_of_ble_eq_true rfl⟩ dX7_without_22 ?_
      refine x_aload_n (pc := 25) C dX7_without_25 rfl rfl ?_
      obtain ⟨k, h⟩ := chk_s h
      have k2 := k
      obtain ⟨k, h⟩ := chk_s h
      refine x_getR (pc := 26) C fX7_48 rfl k2 k dX7_without_26 ?_
      obtain ⟨k, h⟩ := chk_s h
      have k2 := k
      obtain ⟨k, h⟩ := chk_s h
      refine x_getR (pc := 29) C fX7_225 rfl k2 k dX7_without_29 ?_
      refine x_iload_n (pc := 32) C dX7_without_32 rfl rfl ?_
      obtain ⟨k, h⟩ := chk_s h
      refine x_iald (pc := 33) C k dX7_without_33 ?_
      cases h
      exact x_iret C hr dX7_without_34
def DX7_keepSharesBefore_57 (σ : Sg) : Option (Unit × Sg) :=
  some ((), σ)
theorem tX7_keepSharesBefore_57 {r : Unit} {σ' : Sg} (C : Cx E p s m args meth c RX7 cX7_keepSharesBefore 3) (hr : meth.sig.returnType = none) {σ : Sg} (h : DX7_keepSharesBefore_57  σ = some (r, σ')) : Y E p l e (rmA 5 0 0) s m args below meth c none σ' 0 0 3 0 0 σ 57 [none, none, none] [] := by
  unfold DX7_keepSharesBefore_57 at h
  cases h
  exact x_vret C hr dX7_keepSharesBefore_57
def DX7_keepSharesBefore_25 : Nat → Nat → Int32 → Sg → Option (Unit × Sg)
  | 0, _, _, _ => none
  | n + 1, l0, l2, σ =>
    chk (ckO σ 5 l0) <|
    chk (ckV (gR σ l0 6)) <|
    chk (ckO σ 4 (gR σ l0 6)) <|
    if (gI σ (gR σ l0 6) 2) ≤ l2 then
      DX7_keepSharesBefore_57 σ
    else
      chk (ckO σ 5 l0) <|
      chk (ckV (gR σ l0 8)) <|
      chk (ckO σ 5 l0) <|
      chk (ckV (gR σ l0 6)) <|
      chk (ckO σ 4 (gR σ l0 6)) <|
      chk (ckV (gR σ (gR σ l0 6) 12)) <|
      chk (ckI σ (gR σ (gR σ l0 6) 12) l2) <|
      chk (ckI σ (gR σ l0 8) l2) <|
      wlet (wI σ (gR σ l0 8) l2.toNatClampNeg (aI σ (gR σ (gR σ l0 6) 12) l2.toNatClampNeg)) fun σ1 =>
      DX7_keepSharesBefore_25 n l0 (l2 + (1 : Int32)) σ1
theorem tX7_keepSharesBefore_25 {r : Unit} {σ' : Sg} (C : Cx E p s m args meth c RX7 cX7_keepSharesBefore 3) (hr : meth.sig.returnType = none) : ∀ (n : Nat) (l0 : Nat) (l2 : Int32) (σ : Sg) (h : DX7_keepSharesBefore_25 n l0 l2 σ = some (r, σ')), Y E p l e (rmA 5 0 0) s m args below meth c none σ' 0 0 3 0 0 σ 25 [some (.ref (ad E l0)), none, some (.int l2)] [] := by
  intro n
  induction n with
  | zero => intro l0 l2 σ h; cases h
  | succ n ih =>
    intro l0 l2 σ h
    unfold DX7_keepSharesBefore_25 at h
    refine x_iload_n (pc := 25) C dX7_keepSharesBefore_25 rfl rfl ?_
    refine x_aload_n (pc := 26) C dX7_keepSharesBefore_26 rfl rfl ?_
    obtain ⟨k, h⟩ := chk_s h
    have k2 := k
    obtain ⟨k, h⟩ := chk_s h
    refine x_getR (pc := 27) C fX7_48 rfl k2 k dX7_keepSharesBefore_27 ?_
    obtain ⟨k, h⟩ := chk_s h
    refine x_getI (pc := 30) C fX7_161 rfl k dX7_keepSharesBefore_30 ?_
    refine x_icmp_ge (pc := 33) (tgt := 57) C dX7_keepSharesBefore_33 (by decide) (fun q => ?_) (fun q => ?_)
    · rw [if_pos q] at h
      exact x_sub (tX7_keepSharesBefore_57 C hr h) (xLe_n (xLe_n (xLe_n xLe_0)))
    · rw [if_neg q] at h
      refine x_aload_n (pc := 36) C dX7_keepSharesBefore_36 rfl rfl ?_
      obtain ⟨k, h⟩ := chk_s h
      have k2 := k
      obtain ⟨k, h⟩ := chk_s h
      refine x_getR (pc := 37) C fX7_59 rfl k2 k dX7_keepSharesBefore_37 ?_
      refine x_iload_n (pc := 40) C dX7_keepSharesBefore_40 rfl rfl ?_
      refine x_aload_n (pc := 41) C dX7_keepSharesBefore_41 rfl rfl ?_
      obtain ⟨k, h⟩ := chk_s h
      have k2 := k
      obtain ⟨k, h⟩ := chk_s h
      refine x_getR (pc := 42) C fX7_48 rfl k2 k dX7_keepSharesBefore_42 ?_
      obtain ⟨k, h⟩ := chk_s h
      have k2 := k
      obtain ⟨k, h⟩ := chk_s h
      refine x_getR (pc := 45) C fX7_225 rfl k2 k dX7_keepSharesBefore_45 ?_
      refine x_iload_n (pc := 48) C dX7_keepSharesBefore_48 rfl rfl ?_
      obtain ⟨k, h⟩ := chk_s h
      refine x_iald (pc := 49) C k dX7_keepSharesBefore_49 ?_
      obtain ⟨k, h⟩ := chk_s h
      obtain ⟨σ1, e1, h⟩ := wlet_s h
      refine x_iast (pc := 50) C k dX7_keepSharesBefore_50 (x_eq e1 ?_)
      refine x_iinc (v := 1) (M := [some _, none, some _]) (pc := 51) C dX7_keepSharesBefore_51 rfl (by decide) (by decide) rfl ?_
      refine x_goto (tgt := 25) (pc := 54) C dX7_keepSharesBefore_54 (by decide) ?_
      exact x_sub (ih _ _ _ h) (xLe_s (xLe_n (xLe_s xLe_0)))
def DX7_keepSharesBefore (l0 : Nat) (l1 : Int32) (σ : Sg) : Option (Unit × Sg) :=
  chk (ckO σ 5 l0) <|
  chk (ckV (gR σ l0 6)) <|
  chk (ckO σ 5 l0) <|
  chk (ckV (gR σ l0 2)) <|
  chk (ckO σ 5 l0) <|
  chk (ckV (gR σ l0 5)) <|
  chk (ckO σ 4 (gR σ l0 6)) <|
  bnd (DX5_take (gR σ l0 6) (gR σ l0 2) (gR σ l0 5) l1 σ) fun _ σ1 =>
  chk (ckO σ1 5 l0) <|
  chk (ckV (gR σ1 l0 6)) <|
  chk (ckO σ1 4 (gR σ1 l0 6)) <|
  bnd (DX5_prorate (gR σ1 l0 6) σ1) fun _ σ2 =>
  DX7_keepSharesBefore_25 FU l0 (0 : Int32) σ2
theorem mX7_keepSharesBefore (E : Ev) (l : Launch) {l0 : Nat} {l1 : Int32} {σ : Sg} {r : Unit} {σ' : Sg} (h : DX7_keepSharesBefore l0 l1 σ = some (r, σ')) : Mt E l yX7_keepSharesBefore cX7_keepSharesBefore 3 none 5 0 0 [.ref (ad E l0), .int l1] σ none σ' := by
  refine Mt.ofX (by decide) (Nat.le_of_ble_eq_true rfl) (L0 := [some (.ref (ad E l0)), some (.int l1), none]) (xEntN_ok [.ref (ad E l0), .int l1] 3) (fun p e s m args below meth c C hr hn => ?_)
  unfold DX7_keepSharesBefore at h
  refine x_aload_n (pc := 0) C dX7_keepSharesBefore_0 rfl rfl ?_
  obtain ⟨k, h⟩ := chk_s h
  have k2 := k
  obtain ⟨k, h⟩ := chk_s h
  refine x_getR (pc := 1) C fX7_48 rfl k2 k dX7_keepSharesBefore_1 ?_
  refine x_aload_n (pc := 4) C dX7_keepSharesBefore_4 rfl rfl ?_
  obtain ⟨k, h⟩ := chk_s h
  have k2 := k
  obtain ⟨k, h⟩ := chk_s h
  refine x_getR (pc := 5) C fX7_20 rfl k2 k dX7_keepSharesBefore_5 ?_
  refine x_aload_n (pc := 8) C dX7_keepSharesBefore_8 rfl rfl ?_
  obtain ⟨k, h⟩ := chk_s h
  have k2 := k
  obtain ⟨k, h⟩ := chk_s h
  refine x_getR (pc := 9) C fX7_39 rfl k2 k dX7_keepSharesBefore_9 ?_
  refine x_iload_n (pc := 12) C dX7_keepSharesBefore_12 rfl rfl ?_
  obtain ⟨k, h⟩ := chk_s h
  have k2 := k
  obtain ⟨u0, σ1, k, h⟩ := bnd_s h
  refine x_callV0 (pc := 13) C (mX5_take E l k) cl4 k2 cX7_212 nX5_take sX5_take rfl rfl (Nat.le_of_ble_eq_true rfl) ⟨Nat.le_of_ble_eq_true rfl, Nat.le_of_ble_eq_true rfl, Nat.le_of_ble_eq_true rfl, Nat.le_of_ble_eq_true rfl⟩ dX7_keepSharesBefore_13 ?_
  refine x_aload_n (pc := 16) C dX7_keepSharesBefore_16 rfl rfl ?_
  obtain ⟨k, h⟩ := chk_s h
  have k2 := k
  obtain ⟨k, h⟩ := chk_s h
  refine x_getR (pc := 17) C fX7_48 rfl k2 k dX7_keepSharesBefore_17 ?_
  obtain ⟨k, h⟩ := chk_s h
  have k2 := k
  obtain ⟨u0, σ2, k, h⟩ := bnd_s h
  refine x_callV0 (pc := 20) C (mX5_prorate E l k) cl4 k2 cX7_216 nX5_prorate sX5_prorate rfl rfl (Nat.le_of_ble_eq_true rfl) ⟨Nat.le_of_ble_eq_true rfl, Nat.le_of_ble_eq_true rfl, Nat.le_of_ble_eq_true rfl, Nat.le_of_ble_eq_true rfl⟩ dX7_keepSharesBefore_20 ?_
  refine x_iconst (v := 0) (pc := 23) C dX7_keepSharesBefore_23 (by decide) ?_
  refine x_istore_n (M := [some _, some _, some _]) (pc := 24) C dX7_keepSharesBefore_24 rfl (by decide) rfl ?_
  exact x_sub (tX7_keepSharesBefore_25 C hr FU _ _ _ h) (xLe_s (xLe_n (xLe_s xLe_0)))
def DX7_sharesDiffer_31 (σ : Sg) : Option (Int32 × Sg) :=
  chk (ck01 (1 : Int32)) <|
  some ((1 : Int32), σ)
theorem tX7_sharesDiffer_31 {r : Int32} {σ' : Sg} (C : Cx E p s m args meth c RX7 cX7_sharesDiffer 2) (hr : meth.sig.returnType = (some .boolean)) {σ : Sg} (h : DX7_sharesDiffer_31  σ = some (r, σ')) : Y E p l e (rmA 1 0 0) s m args below meth c (some (.int r)) σ' 0 0 2 0 0 σ 31 [none, none] [] := by
  unfold DX7_sharesDiffer_31 at h
  refine x_iconst (v := 1) (pc := 31) C dX7_sharesDiffer_31 (by decide) ?_
  obtain ⟨kz, h⟩ := chk_s h
  cases h
  exact x_zret C hr (nar_01 kz) dX7_sharesDiffer_32
def DX7_sharesDiffer_39 (σ : Sg) : Option (Int32 × Sg) :=
  chk (ck01 (0 : Int32)) <|
  some ((0 : Int32), σ)
theorem tX7_sharesDiffer_39 {r : Int32} {σ' : Sg} (C : Cx E p s m args meth c RX7 cX7_sharesDiffer 2) (hr : meth.sig.returnType = (some .boolean)) {σ : Sg} (h : DX7_sharesDiffer_39  σ = some (r, σ')) : Y E p l e (rmA 1 0 0) s m args below meth c (some (.int r)) σ' 0 0 2 0 0 σ 39 [none, none] [] := by
  unfold DX7_sharesDiffer_39 at h
  refine x_iconst (v := 0) (pc := 39) C dX7_sharesDiffer_39 (by decide) ?_
  obtain ⟨kz, h⟩ := chk_s h
  cases h
  exact x_zret C hr (nar_01 kz) dX7_sharesDiffer_40
def DX7_sharesDiffer_2 : Nat → Nat → Int32 → Sg → Option (Int32 × Sg)
  | 0, _, _, _ => none
  | n + 1, l0, l1, σ =>
    chk (ckO σ 5 l0) <|
    chk (ckV (gR σ l0 6)) <|
    chk (ckO σ 4 (gR σ l0 6)) <|
    if (gI σ (gR σ l0 6) 2) ≤ l1 then
      DX7_sharesDiffer_39 σ
    else
      chk (ckO σ 5 l0) <|
      chk (ckV (gR σ l0 6)) <|
      chk (ckO σ 4 (gR σ l0 6)) <|
      chk (ckV (gR σ (gR σ l0 6) 12)) <|
      chk (ckI σ (gR σ (gR σ l0 6) 12) l1) <|
      chk (ckO σ 5 l0) <|
      chk (ckV (gR σ l0 8)) <|
      chk (ckI σ (gR σ l0 8) l1) <|
      if (aI σ (gR σ (gR σ l0 6) 12) l1.toNatClampNeg) = (aI σ (gR σ l0 8) l1.toNatClampNeg) then
        DX7_sharesDiffer_2 n l0 (l1 + (1 : Int32)) σ
      else
        DX7_sharesDiffer_31 σ
theorem tX7_sharesDiffer_2 {r : Int32} {σ' : Sg} (C : Cx E p s m args meth c RX7 cX7_sharesDiffer 2) (hr : meth.sig.returnType = (some .boolean)) : ∀ (n : Nat) (l0 : Nat) (l1 : Int32) (σ : Sg) (h : DX7_sharesDiffer_2 n l0 l1 σ = some (r, σ')), Y E p l e (rmA 1 0 0) s m args below meth c (some (.int r)) σ' 0 0 2 0 0 σ 2 [some (.ref (ad E l0)), some (.int l1)] [] := by
  intro n
  induction n with
  | zero => intro l0 l1 σ h; cases h
  | succ n ih =>
    intro l0 l1 σ h
    unfold DX7_sharesDiffer_2 at h
    refine x_iload_n (pc := 2) C dX7_sharesDiffer_2 rfl rfl ?_
    refine x_aload_n (pc := 3) C dX7_sharesDiffer_3 rfl rfl ?_
    obtain ⟨k, h⟩ := chk_s h
    have k2 := k
    obtain ⟨k, h⟩ := chk_s h
    refine x_getR (pc := 4) C fX7_48 rfl k2 k dX7_sharesDiffer_4 ?_
    obtain ⟨k, h⟩ := chk_s h
    refine x_getI (pc := 7) C fX7_161 rfl k dX7_sharesDiffer_7 ?_
    refine x_icmp_ge (pc := 10) (tgt := 39) C dX7_sharesDiffer_10 (by decide) (fun q => ?_) (fun q => ?_)
    · rw [if_pos q] at h
      exact x_sub (tX7_sharesDiffer_39 C hr h) (xLe_n (xLe_n xLe_0))
    · rw [if_neg q] at h
      refine x_aload_n (pc := 13) C dX7_sharesDiffer_13 rfl rfl ?_
      obtain ⟨k, h⟩ := chk_s h
      have k2 := k
      obtain ⟨k, h⟩ := chk_s h
      refine x_getR (pc := 14) C fX7_48 rfl k2 k dX7_sharesDiffer_14 ?_
      obtain ⟨k, h⟩ := chk_s h
      have k2 := k
      obtain ⟨k, h⟩ := chk_s h
      refine x_getR (pc := 17) C fX7_225 rfl k2 k dX7_sharesDiffer_17 ?_
      refine x_iload_n (pc := 20) C dX7_sharesDiffer_20 rfl rfl ?_
      obtain ⟨k, h⟩ := chk_s h
      refine x_iald (pc := 21) C k dX7_sharesDiffer_21 ?_
      refine x_aload_n (pc := 22) C dX7_sharesDiffer_22 rfl rfl ?_
      obtain ⟨k, h⟩ := chk_s h
      have k2 := k
      obtain ⟨k, h⟩ := chk_s h
      refine x_getR (pc := 23) C fX7_59 rfl k2 k dX7_sharesDiffer_23 ?_
      refine x_iload_n (pc := 26) C dX7_sharesDiffer_26 rfl rfl ?_
      obtain ⟨k, h⟩ := chk_s h
      refine x_iald (pc := 27) C k dX7_sharesDiffer_27 ?_
      refine x_icmp_eq (pc := 28) (tgt := 33) C dX7_sharesDiffer_28 (by decide) (fun q => ?_) (fun q => ?_)
      · rw [if_pos q] at h
        refine x_iinc (v := 1) (M := [some _, some _]) (pc := 33) C dX7_sharesDiffer_33 rfl (by decide) (by decide) rfl ?_
        refine x_goto (tgt := 2) (pc := 36) C dX7_sharesDiffer_36 (by decide) ?_
        exact x_sub (ih _ _ _ h) (xLe_s (xLe_s xLe_0))
      · rw [if_neg q] at h
        exact x_sub (tX7_sharesDiffer_31 C hr h) (xLe_n (xLe_n xLe_0))
def DX7_sharesDiffer (l0 : Nat) (σ : Sg) : Option (Int32 × Sg) :=
  DX7_sharesDiffer_2 FU l0 (0 : Int32) σ
theorem mX7_sharesDiffer (E : Ev) (l : Launch) {l0 : Nat} {σ : Sg} {r : Int32} {σ' : Sg} (h : DX7_sharesDiffer l0 σ = some (r, σ')) : Mt E l yX7_sharesDiffer cX7_sharesDiffer 2 (some .boolean) 1 0 0 [.ref (ad E l0)] σ (some (.int r)) σ' := by
  refine Mt.ofX (by decide) (Nat.le_of_ble_eq_true rfl) (L0 := [some (.ref (ad E l0)), none]) (xEntN_ok [.ref (ad E l0)] 2) (fun p e s m args below meth c C hr hn => ?_)
  unfold DX7_sharesDiffer at h
  refine x_iconst (v := 0) (pc := 0) C dX7_sharesDiffer_0 (by decide) ?_
  refine x_istore_n (M := [some _, some _]) (pc := 1) C dX7_sharesDiffer_1 rfl (by decide) rfl ?_
  exact x_sub (tX7_sharesDiffer_2 C hr FU _ _ _ h) (xLe_s (xLe_s xLe_0))
def DX7_matters_49 (K14 : Nat → Int32 → Int32 → Int32 → Sg → Option (Int32 × Sg)) (l0 : Nat) (l1 : Int32) (l2 : Int32) (l3 : Int32) (σ : Sg) : Option (Int32 × Sg) :=
  K14 l0 l1 l2 (l3 + (1 : Int32)) σ
theorem tX7_matters_49 {r : Int32} {σ' : Sg} (C : Cx E p s m args meth c RX7 cX7_matters 4) (hr : meth.sig.returnType = (some .int)) {K14 : Nat → Int32 → Int32 → Int32 → Sg → Option (Int32 × Sg)} (hK14 : ∀ (l0 : Nat) (l1 : Int32) (l2 : Int32) (l3 : Int32) (σ : Sg), K14 l0 l1 l2 l3 σ = some (r, σ') → Y E p l e (rmA 6 0 0) s m args below meth c (some (.int r)) σ' 0 0 4 0 0 σ 14 [some (.ref (ad E l0)), some (.int l1), some (.int l2), some (.int l3)] []) {l0 : Nat} {l1 : Int32} {l2 : Int32} {l3 : Int32} {σ : Sg} (h : DX7_matters_49 K14 l0 l1 l2 l3 σ = some (r, σ')) : Y E p l e (rmA 6 0 0) s m args below meth c (some (.int r)) σ' 0 0 4 0 0 σ 49 [some (.ref (ad E l0)), some (.int l1), some (.int l2), some (.int l3)] [] := by
  unfold DX7_matters_49 at h
  refine x_iinc (v := 1) (M := [some _, some _, some _, some _]) (pc := 49) C dX7_matters_49 rfl (by decide) (by decide) rfl ?_
  refine x_goto (tgt := 14) (pc := 52) C dX7_matters_52 (by decide) ?_
  exact x_sub (hK14 _ _ _ _ _ h) (xLe_s (xLe_s (xLe_s (xLe_s xLe_0))))
def DX7_matters_55 (l2 : Int32) (σ : Sg) : Option (Int32 × Sg) :=
  some (l2, σ)
theorem tX7_matters_55 {r : Int32} {σ' : Sg} (C : Cx E p s m args meth c RX7 cX7_matters 4) (hr : meth.sig.returnType = (some .int)) {l2 : Int32} {σ : Sg} (h : DX7_matters_55 l2 σ = some (r, σ')) : Y E p l e (rmA 6 0 0) s m args below meth c (some (.int r)) σ' 0 0 4 0 0 σ 55 [none, none, some (.int l2), none] [] := by
  unfold DX7_matters_55 at h
  refine x_iload_n (pc := 55) C dX7_matters_55 rfl rfl ?_
  cases h
  exact x_iret C hr dX7_matters_56
def DX7_matters_14 : Nat → Nat → Int32 → Int32 → Int32 → Sg → Option (Int32 × Sg)
  | 0, _, _, _, _, _ => none
  | n + 1, l0, l1, l2, l3, σ =>
    chk (ckO σ 5 l0) <|
    chk (ckV (gR σ l0 2)) <|
    chk (ckO σ 0 (gR σ l0 2)) <|
    if (gI σ (gR σ l0 2) 9) ≤ l3 then
      DX7_matters_55 l2 σ
    else
      chk (ckO σ 5 l0) <|
      bnd (DX7_keepSharesBefore l0 l3 σ) fun _ σ1 =>
      chk (ckO σ1 5 l0) <|
      bnd (DX7_prorateWithout l0 l1 l3 σ1) fun _ σ2 =>
      chk (ckO σ2 5 l0) <|
      bnd (DX7_sharesDiffer l0 σ2) fun v3 σ4 =>
      if v3 = 0 then
        DX7_matters_49 (DX7_matters_14 n) l0 l1 l2 l3 σ4
      else
        DX7_matters_49 (DX7_matters_14 n) l0 l1 (l2 ||| ((1 : Int32) <<< (l3 &&& 31))) l3 σ4
theorem tX7_matters_14 {r : Int32} {σ' : Sg} (C : Cx E p s m args meth c RX7 cX7_matters 4) (hr : meth.sig.returnType = (some .int)) : ∀ (n : Nat) (l0 : Nat) (l1 : Int32) (l2 : Int32) (l3 : Int32) (σ : Sg) (h : DX7_matters_14 n l0 l1 l2 l3 σ = some (r, σ')), Y E p l e (rmA 6 0 0) s m args below meth c (some (.int r)) σ' 0 0 4 0 0 σ 14 [some (.ref (ad E l0)), some (.int l1), some (.int l2), some (.int l3)] [] := by
  intro n
  induction n with
  | zero => intro l0 l1 l2 l3 σ h; cases h
  | succ n ih =>
    intro l0 l1 l2 l3 σ h
    unfold DX7_matters_14 at h
    refine x_iload_n (pc := 14) C dX7_matters_14 rfl rfl ?_
    refine x_aload_n (pc := 15) C dX7_matters_15 rfl rfl ?_
    obtain ⟨k, h⟩ := chk_s h
    have k2 := k
    obtain ⟨k, h⟩ := chk_s h
    refine x_getR (pc := 16) C fX7_20 rfl k2 k dX7_matters_16 ?_
    obtain ⟨k, h⟩ := chk_s h
    refine x_getI (pc := 19) C fX7_100 rfl k dX7_matters_19 ?_
    refine x_icmp_ge (pc := 22) (tgt := 55) C dX7_matters_22 (by decide) (fun q => ?_) (fun q => ?_)
    · rw [if_pos q] at h
      exact x_sub (tX7_matters_55 C hr h) (xLe_n (xLe_n (xLe_s (xLe_n xLe_0))))
    · rw [if_neg q] at h
      refine x_aload_n (pc := 25) C dX7_matters_25 rfl rfl ?_
      refine x_iload_n (pc := 26) C dX7_matters_26 rfl rfl ?_
      obtain ⟨k, h⟩ := chk_s h
      have k2 := k
      obtain ⟨u0, σ1, k, h⟩ := bnd_s h
      refine x_callV0 (pc := 27) C (mX7_keepSharesBefore E l k) cl5 k2 cX7_249 nX7_keepSharesBefore sX7_keepSharesBefore rfl rfl (Nat.le_of_ble_eq_true rfl) ⟨Nat.le_of_ble_eq_true rfl, Nat.le_of_ble_eq_true rfl, Nat.le_of_ble_eq_true rfl, Nat.le_of_ble_eq_true rfl⟩ dX7_matters_27 ?_
      refine x_aload_n (pc := 30) C dX7_matters_30 rfl rfl ?_
      refine x_iload_n (pc := 31) C dX7_matters_31 rfl rfl ?_
      refine x_iload_n (pc := 32) C dX7_matters_32 rfl rfl ?_
      obtain ⟨k, h⟩ := chk_s h
      have k2 := k
      obtain ⟨u0, σ2, k, h⟩ := bnd_s h
      refine x_callV0 (pc := 33) C (mX7_prorateWithout E l k) cl5 k2 cX7_245 nX7_prorateWithout sX7_prorateWithout rfl rfl (Nat.le_of_ble_eq_true rfl) ⟨Nat.le_of_ble_eq_true rfl, Nat.le_of_ble_eq_true rfl, Nat.le_of_ble_eq_true rfl, Nat.le_of_ble_eq_true rfl⟩ dX7_matters_33 ?_
      refine x_aload_n (pc := 36) C dX7_matters_36 rfl rfl ?_
      obtain ⟨k, h⟩ := chk_s h
      have k2 := k
      obtain ⟨v3, σ4, k, h⟩ := bnd_s h
      refine x_callV1 (pc := 37) C (mX7_sharesDiffer E l k) cl5 k2 cX7_252 nX7_sharesDiffer sX7_sharesDiffer rfl rfl (Nat.le_of_ble_eq_true rfl) ⟨Nat.le_of_ble_eq_true rfl, Nat.le_of_ble_eq_true rfl, Nat.le_of_ble_eq_true rfl, Nat.le_of_ble_eq_true rfl⟩ dX7_matters_37 ?_
      refine x_if_eq (pc := 40) (tgt := 49) C dX7_matters_40 (by decide) (fun q => ?_) (fun q => ?_)
      · rw [if_pos q] at h
        exact x_sub (tX7_matters_49 C hr ih h) (xLe_s (xLe_s (xLe_s (xLe_s xLe_0))))
      · rw [if_neg q] at h
        refine x_iload_n (pc := 43) C dX7_matters_43 rfl rfl ?_
        refine x_iconst (v := 1) (pc := 44) C dX7_matters_44 (by decide) ?_
        refine x_iload_n (pc := 45) C dX7_matters_45 rfl rfl ?_
        refine x_ishl (pc := 46) C dX7_matters_46 ?_
        refine x_ior (pc := 47) C dX7_matters_47 ?_
        refine x_istore_n (M := [some _, some _, some _, some _]) (pc := 48) C dX7_matters_48 rfl (by decide) rfl ?_
        exact x_sub (tX7_matters_49 C hr ih h) (xLe_s (xLe_s (xLe_s (xLe_s xLe_0))))
def DX7_matters (l0 : Nat) (l1 : Int32) (σ : Sg) : Option (Int32 × Sg) :=
  chk (ckO σ 5 l0) <|
  bnd (DX7_isProviso l0 l1 σ) fun v1 σ2 =>
  if v1 = 0 then
    some ((-1 : Int32), σ2)
  else
    DX7_matters_14 FU l0 l1 (0 : Int32) (0 : Int32) σ2
theorem mX7_matters (E : Ev) (l : Launch) {l0 : Nat} {l1 : Int32} {σ : Sg} {r : Int32} {σ' : Sg} (h : DX7_matters l0 l1 σ = some (r, σ')) : Mt E l yX7_matters cX7_matters 4 (some .int) 6 0 0 [.ref (ad E l0), .int l1] σ (some (.int r)) σ' := by
  refine Mt.ofX (by decide) (Nat.le_of_ble_eq_true rfl) (L0 := [some (.ref (ad E l0)), some (.int l1), none, none]) (xEntN_ok [.ref (ad E l0), .int l1] 4) (fun p e s m args below meth c C hr hn => ?_)
  unfold DX7_matters at h
  refine x_aload_n (pc := 0) C dX7_matters_0 rfl rfl ?_
  refine x_iload_n (pc := 1) C dX7_matters_1 rfl rfl ?_
  obtain ⟨k, h⟩ := chk_s h
  have k2 := k
  obtain ⟨v1, σ2, k, h⟩ := bnd_s h
  refine x_callV1 (pc := 2) C (mX7_isProviso E l k) cl5 k2 cX7_137 nX7_isProviso sX7_isProviso rfl rfl (Nat.le_of_ble_eq_true rfl) ⟨Nat.le_of_ble_eq_true rfl, Nat.le_of_ble_eq_true rfl, Nat.le_of_ble_eq_true rfl, Nat.le_of_ble_eq_true rfl⟩ dX7_matters_2 ?_
  refine x_if_ne (pc := 5) (tgt := 10) C dX7_matters_5 (by decide) (fun q => ?_) (fun q => ?_)
  · rw [if_pos q] at h
    refine x_iconst (v := -1) (pc := 8) C dX7_matters_8 (by decide) ?_
    cases h
    exact x_iret C hr dX7_matters_9
  · rw [if_neg q] at h
    refine x_iconst (v := 0) (pc := 10) C dX7_matters_10 (by decide) ?_
    refine x_istore_n (M := [some _, some _, some _, none]) (pc := 11) C dX7_matters_11 rfl (by decide) rfl ?_
    refine x_iconst (v := 0) (pc := 12) C dX7_matters_12 (by decide) ?_
    refine x_istore_n (M := [some _, some _, some _, some _]) (pc := 13) C dX7_matters_13 rfl (by decide) rfl ?_
    exact x_sub (tX7_matters_14 C hr FU _ _ _ _ _ h) (xLe_s (xLe_s (xLe_s (xLe_s xLe_0))))
def DX7_clearSums_24 (σ : Sg) : Option (Unit × Sg) :=
  some ((), σ)
theorem tX7_clearSums_24 {r : Unit} {σ' : Sg} (C : Cx E p s m args meth c RX7 cX7_clearSums 2) (hr : meth.sig.returnType = none) {σ : Sg} (h : DX7_clearSums_24  σ = some (r, σ')) : Y E p l e (rmA 1 0 0) s m args below meth c none σ' 0 0 2 0 0 σ 24 [none, none] [] := by
  unfold DX7_clearSums_24 at h
  cases h
  exact x_vret C hr dX7_clearSums_24
def DX7_clearSums_2 : Nat → Nat → Int32 → Sg → Option (Unit × Sg)
  | 0, _, _, _ => none
  | n + 1, l0, l1, σ =>
    chk (ckO σ 5 l0) <|
    chk (ckV (gR σ l0 9)) <|
    chk (ckL σ (gR σ l0 9)) <|
    if (nI (shp (gR σ l0 9)).2.1) ≤ l1 then
      DX7_clearSums_24 σ
    else
      chk (ckO σ 5 l0) <|
      chk (ckV (gR σ l0 9)) <|
      chk (ckI σ (gR σ l0 9) l1) <|
      wlet (wI σ (gR σ l0 9) l1.toNatClampNeg (0 : Int32)) fun σ1 =>
      DX7_clearSums_2 n l0 (l1 + (1 : Int32)) σ1
theorem tX7_clearSums_2 {r : Unit} {σ' : Sg} (C : Cx E p s m args meth c RX7 cX7_clearSums 2) (hr : meth.sig.returnType = none) : ∀ (n : Nat) (l0 : Nat) (l1 : Int32) (σ : Sg) (h : DX7_clearSums_2 n l0 l1 σ = some (r, σ')), Y E p l e (rmA 1 0 0) s m args below meth c none σ' 0 0 2 0 0 σ 2 [some (.ref (ad E l0)), some (.int l1)] [] := by
  intro n
  induction n with
  | zero => intro l0 l1 σ h; cases h
  | succ n ih =>
    intro l0 l1 σ h
    unfold DX7_clearSums_2 at h
    refine x_iload_n (pc := 2) C dX7_clearSums_2 rfl rfl ?_
    refine x_aload_n (pc := 3) C dX7_clearSums_3 rfl rfl ?_
    obtain ⟨k, h⟩ := chk_s h
    have k2 := k
    obtain ⟨k, h⟩ := chk_s h
    refine x_getR (pc := 4) C fX7_62 rfl k2 k dX7_clearSums_4 ?_
    obtain ⟨k, h⟩ := chk_s h
    refine x_alen (pc := 7) C k dX7_clearSums_7 ?_
    refine x_icmp_ge (pc := 8) (tgt := 24) C dX7_clearSums_8 (by decide) (fun q => ?_) (fun q => ?_)
    · rw [if_pos q] at h
      exact x_sub (tX7_clearSums_24 C hr h) (xLe_n (xLe_n xLe_0))
    · rw [if_neg q] at h
      refine x_aload_n (pc := 11) C dX7_clearSums_11 rfl rfl ?_
      obtain ⟨k, h⟩ := chk_s h
      have k2 := k
      obtain ⟨k, h⟩ := chk_s h
      refine x_getR (pc := 12) C fX7_62 rfl k2 k dX7_clearSums_12 ?_
      refine x_iload_n (pc := 15) C dX7_clearSums_15 rfl rfl ?_
      refine x_iconst (v := 0) (pc := 16) C dX7_clearSums_16 (by decide) ?_
      obtain ⟨k, h⟩ := chk_s h
      obtain ⟨σ1, e1, h⟩ := wlet_s h
      refine x_iast (pc := 17) C k dX7_clearSums_17 (x_eq e1 ?_)
      refine x_iinc (v := 1) (M := [some _, some _]) (pc := 18) C dX7_clearSums_18 rfl (by decide) (by decide) rfl ?_
      refine x_goto (tgt := 2) (pc := 21) C dX7_clearSums_21 (by decide) ?_
      exact x_sub (ih _ _ _ h) (xLe_s (xLe_s xLe_0))
def DX7_clearSums (l0 : Nat) (σ : Sg) : Option (Unit × Sg) :=
  DX7_clearSums_2 FU l0 (0 : Int32) σ
theorem mX7_clearSums (E : Ev) (l : Launch) {l0 : Nat} {σ : Sg} {r : Unit} {σ' : Sg} (h : DX7_clearSums l0 σ = some (r, σ')) : Mt E l yX7_clearSums cX7_clearSums 2 none 1 0 0 [.ref (ad E l0)] σ none σ' := by
  refine Mt.ofX (by decide) (Nat.le_of_ble_eq_true rfl) (L0 := [some (.ref (ad E l0)), none]) (xEntN_ok [.ref (ad E l0)] 2) (fun p e s m args below meth c C hr hn => ?_)
  unfold DX7_clearSums at h
  refine x_iconst (v := 0) (pc := 0) C dX7_clearSums_0 (by decide) ?_
  refine x_istore_n (M := [some _, some _]) (pc := 1) C dX7_clearSums_1 rfl (by decide) rfl ?_
  exact x_sub (tX7_clearSums_2 C hr FU _ _ _ h) (xLe_s (xLe_s xLe_0))
def DX7_sumGainsWithout_80 (K6 : Nat → Int32 → Int32 → Sg → Option (Unit × Sg)) (l0 : Nat) (l1 : Int32) (l2 : Int32) (σ : Sg) : Option (Unit × Sg) :=
  K6 l0 l1 (l2 + (1 : Int32)) σ
theorem tX7_sumGainsWithout_80 {r : Unit} {σ' : Sg} (C : Cx E p s m args meth c RX7 cX7_sumGainsWithout 4) (hr : meth.sig.returnType = none) {K6 : Nat → Int32 → Int32 → Sg → Option (Unit × Sg)} (hK6 : ∀ (l0 : Nat) (l1 : Int32) (l2 : Int32) (σ : Sg), K6 l0 l1 l2 σ = some (r, σ') → Y E p l e (rmA 6 0 0) s m args below meth c none σ' 0 0 4 0 0 σ 6 [some (.ref (ad E l0)), some (.int l1), some (.int l2), none] []) {l0 : Nat} {l1 : Int32} {l2 : Int32} {σ : Sg} (h : DX7_sumGainsWithout_80 K6 l0 l1 l2 σ = some (r, σ')) : Y E p l e (rmA 6 0 0) s m args below meth c none σ' 0 0 4 0 0 σ 80 [some (.ref (ad E l0)), some (.int l1), some (.int l2), none] [] := by
  unfold DX7_sumGainsWithout_80 at h
  refine x_iinc (v := 1) (M := [some _, some _, some _, none]) (pc := 80) C dX7_sumGainsWithout_80 rfl (by decide) (by decide) rfl ?_
  refine x_goto (tgt := 6) (pc := 83) C dX7_sumGainsWithout_83 (by decide) ?_
  exact x_sub (hK6 _ _ _ _ h) (xLe_s (xLe_s (xLe_s (xLe_n xLe_0))))
def DX7_sumGainsWithout_30 (K6 : Nat → Int32 → Int32 → Sg → Option (Unit × Sg)) : Nat → Nat → Int32 → Int32 → Int32 → Sg → Option (Unit × Sg)
  | 0, _, _, _, _, _ => none
  | n + 1, l0, l1, l2, l3, σ =>
    chk (ckO σ 5 l0) <|
    chk (ckV (gR σ l0 6)) <|
    chk (ckO σ 4 (gR σ l0 6)) <|
    if (gI σ (gR σ l0 6) 2) ≤ l3 then
      DX7_sumGainsWithout_80 K6 l0 l1 l2 σ
    else
      chk (ckO σ 5 l0) <|
      chk (ckV (gR σ l0 9)) <|
      chk (ckO σ 5 l0) <|
      chk (ckV (gR σ l0 6)) <|
      chk (ckO σ 4 (gR σ l0 6)) <|
      chk (ckV (gR σ (gR σ l0 6) 6)) <|
      chk (ckI σ (gR σ (gR σ l0 6) 6) l3) <|
      chk (ckI σ (gR σ l0 9) (aI σ (gR σ (gR σ l0 6) 6) l3.toNatClampNeg)) <|
      chk (ckO σ 5 l0) <|
      chk (ckV (gR σ l0 6)) <|
      chk (ckO σ 4 (gR σ l0 6)) <|
      chk (ckV (gR σ (gR σ l0 6) 12)) <|
      chk (ckI σ (gR σ (gR σ l0 6) 12) l3) <|
      chk (ckO σ 5 l0) <|
      chk (ckV (gR σ l0 8)) <|
      chk (ckI σ (gR σ l0 8) l3) <|
      chk (ckI σ (gR σ l0 9) (aI σ (gR σ (gR σ l0 6) 6) l3.toNatClampNeg)) <|
      wlet (wI σ (gR σ l0 9) (aI σ (gR σ (gR σ l0 6) 6) l3.toNatClampNeg).toNatClampNeg ((aI σ (gR σ l0 9) (aI σ (gR σ (gR σ l0 6) 6) l3.toNatClampNeg).toNatClampNeg) + ((aI σ (gR σ (gR σ l0 6) 12) l3.toNatClampNeg) - (aI σ (gR σ l0 8) l3.toNatClampNeg)))) fun σ1 =>
      DX7_sumGainsWithout_30 K6 n l0 l1 l2 (l3 + (1 : Int32)) σ1
theorem tX7_sumGainsWithout_30 {r : Unit} {σ' : Sg} (C : Cx E p s m args meth c RX7 cX7_sumGainsWithout 4) (hr : meth.sig.returnType = none) {K6 : Nat → Int32 → Int32 → Sg → Option (Unit × Sg)} (hK6 : ∀ (l0 : Nat) (l1 : Int32) (l2 : Int32) (σ : Sg), K6 l0 l1 l2 σ = some (r, σ') → Y E p l e (rmA 6 0 0) s m args below meth c none σ' 0 0 4 0 0 σ 6 [some (.ref (ad E l0)), some (.int l1), some (.int l2), none] []) : ∀ (n : Nat) (l0 : Nat) (l1 : Int32) (l2 : Int32) (l3 : Int32) (σ : Sg) (h : DX7_sumGainsWithout_30 K6 n l0 l1 l2 l3 σ = some (r, σ')), Y E p l e (rmA 6 0 0) s m args below meth c none σ' 0 0 4 0 0 σ 30 [some (.ref (ad E l0)), some (.int l1), some (.int l2), some (.int l3)] [] := by
  intro n
  induction n with
  | zero => intro l0 l1 l2 l3 σ h; cases h
  | succ n ih =>
    intro l0 l1 l2 l3 σ h
    unfold DX7_sumGainsWithout_30 at h
    refine x_iload_n (pc := 30) C dX7_sumGainsWithout_30 rfl rfl ?_
    refine x_aload_n (pc := 31) C dX7_sumGainsWithout_31 rfl rfl ?_
    obtain ⟨k, h⟩ := chk_s h
    have k2 := k
    obtain ⟨k, h⟩ := chk_s h
    refine x_getR (pc := 32) C fX7_48 rfl k2 k dX7_sumGainsWithout_32 ?_
    obtain ⟨k, h⟩ := chk_s h
    refine x_getI (pc := 35) C fX7_161 rfl k dX7_sumGainsWithout_35 ?_
    refine x_icmp_ge (pc := 38) (tgt := 80) C dX7_sumGainsWithout_38 (by decide) (fun q => ?_) (fun q => ?_)
    · rw [if_pos q] at h
      exact x_sub (tX7_sumGainsWithout_80 C hr hK6 h) (xLe_s (xLe_s (xLe_s (xLe_n xLe_0))))
    · rw [if_neg q] at h
      refine x_aload_n (pc := 41) C dX7_sumGainsWithout_41 rfl rfl ?_
      obtain ⟨k, h⟩ := chk_s h
      have k2 := k
      obtain ⟨k, h⟩ := chk_s h
      refine x_getR (pc := 42) C fX7_62 rfl k2 k dX7_sumGainsWithout_42 ?_
      refine x_aload_n (pc := 45) C dX7_sumGainsWithout_45 rfl rfl ?_
      obtain ⟨k, h⟩ := chk_s h
      have k2 := k
      obtain ⟨k, h⟩ := chk_s h
      refine x_getR (pc := 46) C fX7_48 rfl k2 k dX7_sumGainsWithout_46 ?_
      obtain ⟨k, h⟩ := chk_s h
      have k2 := k
      obtain ⟨k, h⟩ := chk_s h
      refine x_getR (pc := 49) C fX7_228 rfl k2 k dX7_sumGainsWithout_49 ?_
      refine x_iload_n (pc := 52) C dX7_sumGainsWithout_52 rfl rfl ?_
      obtain ⟨k, h⟩ := chk_s h
      refine x_iald (pc := 53) C k dX7_sumGainsWithout_53 ?_
      refine x_dup2 (pc := 54) C dX7_sumGainsWithout_54 rfl rfl ?_
      obtain ⟨k, h⟩ := chk_s h
      refine x_iald (pc := 55) C k dX7_sumGainsWithout_55 ?_
      refine x_aload_n (pc := 56) C dX7_sumGainsWithout_56 rfl rfl ?_
      obtain ⟨k, h⟩ := chk_s h
      have k2 := k
      obtain ⟨k, h⟩ := chk_s h
      refine x_getR (pc := 57) C fX7_48 rfl k2 k dX7_sumGainsWithout_57 ?_
      obtain ⟨k, h⟩ := chk_s h
      have k2 := k
      obtain ⟨k, h⟩ := chk_s h
      refine x_getR (pc := 60) C fX7_225 rfl k2 k dX7_sumGainsWithout_60 ?_
      refine x_iload_n (pc := 63) C dX7_sumGainsWithout_63 rfl rfl ?_
      obtain ⟨k, h⟩ := chk_s h
      refine x_iald (pc := 64) C k dX7_sumGainsWithout_64 ?_
      refine x_aload_n (pc := 65) C dX7_sumGainsWithout_65 rfl rfl ?_
      obtain ⟨k, h⟩ := chk_s h
      have k2 := k
      obtain ⟨k, h⟩ := chk_s h
      refine x_getR (pc := 66) C fX7_59 rfl k2 k dX7_sumGainsWithout_66 ?_
      refine x_iload_n (pc := 69) C dX7_sumGainsWithout_69 rfl rfl ?_
      obtain ⟨k, h⟩ := chk_s h
      refine x_iald (pc := 70) C k dX7_sumGainsWithout_70 ?_
      refine x_isub (pc := 71) C dX7_sumGainsWithout_71 ?_
      refine x_iadd (pc := 72) C dX7_sumGainsWithout_72 ?_
      obtain ⟨k, h⟩ := chk_s h
      obtain ⟨σ1, e1, h⟩ := wlet_s h
      refine x_iast (pc := 73) C k dX7_sumGainsWithout_73 (x_eq e1 ?_)
      refine x_iinc (v := 1) (M := [some _, some _, some _, some _]) (pc := 74) C dX7_sumGainsWithout_74 rfl (by decide) (by decide) rfl ?_
      refine x_goto (tgt := 30) (pc := 77) C dX7_sumGainsWithout_77 (by decide) ?_
      exact x_sub (ih _ _ _ _ _ h) (xLe_s (xLe_s (xLe_s (xLe_s xLe_0))))
def DX7_sumGainsWithout_86 (σ : Sg) : Option (Unit × Sg) :=
  some ((), σ)
theorem tX7_sumGainsWithout_86 {r : Unit} {σ' : Sg} (C : Cx E p s m args meth c RX7 cX7_sumGainsWithout 4) (hr : meth.sig.returnType = none) {σ : Sg} (h : DX7_sumGainsWithout_86  σ = some (r, σ')) : Y E p l e (rmA 6 0 0) s m args below meth c none σ' 0 0 4 0 0 σ 86 [none, none, none, none] [] := by
  unfold DX7_sumGainsWithout_86 at h
  cases h
  exact x_vret C hr dX7_sumGainsWithout_86
def DX7_sumGainsWithout_6 : Nat → Nat → Int32 → Int32 → Sg → Option (Unit × Sg)
  | 0, _, _, _, _ => none
  | n + 1, l0, l1, l2, σ =>
    chk (ckO σ 5 l0) <|
    chk (ckV (gR σ l0 2)) <|
    chk (ckO σ 0 (gR σ l0 2)) <|
    if (gI σ (gR σ l0 2) 9) ≤ l2 then
      DX7_sumGainsWithout_86 σ
    else
      chk (ckO σ 5 l0) <|
      bnd (DX7_keepSharesBefore l0 l2 σ) fun _ σ1 =>
      chk (ckO σ1 5 l0) <|
      bnd (DX7_prorateWithout l0 l1 l2 σ1) fun _ σ2 =>
      DX7_sumGainsWithout_30 (DX7_sumGainsWithout_6 n) FU l0 l1 l2 (0 : Int32) σ2
theorem tX7_sumGainsWithout_6 {r : Unit} {σ' : Sg} (C : Cx E p s m args meth c RX7 cX7_sumGainsWithout 4) (hr : meth.sig.returnType = none) : ∀ (n : Nat) (l0 : Nat) (l1 : Int32) (l2 : Int32) (σ : Sg) (h : DX7_sumGainsWithout_6 n l0 l1 l2 σ = some (r, σ')), Y E p l e (rmA 6 0 0) s m args below meth c none σ' 0 0 4 0 0 σ 6 [some (.ref (ad E l0)), some (.int l1), some (.int l2), none] [] := by
  intro n
  induction n with
  | zero => intro l0 l1 l2 σ h; cases h
  | succ n ih =>
    intro l0 l1 l2 σ h
    unfold DX7_sumGainsWithout_6 at h
    refine x_iload_n (pc := 6) C dX7_sumGainsWithout_6 rfl rfl ?_
    refine x_aload_n (pc := 7) C dX7_sumGainsWithout_7 rfl rfl ?_
    obtain ⟨k, h⟩ := chk_s h
    have k2 := k
    obtain ⟨k, h⟩ := chk_s h
    refine x_getR (pc := 8) C fX7_20 rfl k2 k dX7_sumGainsWithout_8 ?_
    obtain ⟨k, h⟩ := chk_s h
    refine x_getI (pc := 11) C fX7_100 rfl k dX7_sumGainsWithout_11 ?_
    refine x_icmp_ge (pc := 14) (tgt := 86) C dX7_sumGainsWithout_14 (by decide) (fun q => ?_) (fun q => ?_)
    · rw [if_pos q] at h
      exact x_sub (tX7_sumGainsWithout_86 C hr h) (xLe_n (xLe_n (xLe_n (xLe_n xLe_0))))
    · rw [if_neg q] at h
      refine x_aload_n (pc := 17) C dX7_sumGainsWithout_17 rfl rfl ?_
      refine x_iload_n (pc := 18) C dX7_sumGainsWithout_18 rfl rfl ?_
      obtain ⟨k, h⟩ := chk_s h
      have k2 := k
      obtain ⟨u0, σ1, k, h⟩ := bnd_s h
      refine x_callV0 (pc := 19) C (mX7_keepSharesBefore E l k) cl5 k2 cX7_249 nX7_keepSharesBefore sX7_keepSharesBefore rfl rfl (Nat.le_of_ble_eq_true rfl) ⟨Nat.le_of_ble_eq_true rfl, Nat.le_of_ble_eq_true rfl, Nat.le_of_ble_eq_true rfl, Nat.le_of_ble_eq_true rfl⟩ dX7_sumGainsWithout_19 ?_
      refine x_aload_n (pc := 22) C dX7_sumGainsWithout_22 rfl rfl ?_
      refine x_iload_n (pc := 23) C dX7_sumGainsWithout_23 rfl rfl ?_
      refine x_iload_n (pc := 24) C dX7_sumGainsWithout_24 rfl rfl ?_
      obtain ⟨k, h⟩ := chk_s h
      have k2 := k
      obtain ⟨u0, σ2, k, h⟩ := bnd_s h
      refine x_callV0 (pc := 25) C (mX7_prorateWithout E l k) cl5 k2 cX7_245 nX7_prorateWithout sX7_prorateWithout rfl rfl (Nat.le_of_ble_eq_true rfl) ⟨Nat.le_of_ble_eq_true rfl, Nat.le_of_ble_eq_true rfl, Nat.le_of_ble_eq_true rfl, Nat.le_of_ble_eq_true rfl⟩ dX7_sumGainsWithout_25 ?_
      refine x_iconst (v := 0) (pc := 28) C dX7_sumGainsWithout_28 (by decide) ?_
      refine x_istore_n (M := [some _, some _, some _, some _]) (pc := 29) C dX7_sumGainsWithout_29 rfl (by decide) rfl ?_
      exact x_sub (tX7_sumGainsWithout_30 C hr ih FU _ _ _ _ _ h) (xLe_s (xLe_s (xLe_s (xLe_s xLe_0))))
def DX7_sumGainsWithout (l0 : Nat) (l1 : Int32) (σ : Sg) : Option (Unit × Sg) :=
  chk (ckO σ 5 l0) <|
  bnd (DX7_clearSums l0 σ) fun _ σ1 =>
  DX7_sumGainsWithout_6 FU l0 l1 (0 : Int32) σ1
theorem mX7_sumGainsWithout (E : Ev) (l : Launch) {l0 : Nat} {l1 : Int32} {σ : Sg} {r : Unit} {σ' : Sg} (h : DX7_sumGainsWithout l0 l1 σ = some (r, σ')) : Mt E l yX7_sumGainsWithout cX7_sumGainsWithout 4 none 6 0 0 [.ref (ad E l0), .int l1] σ none σ' := by
  refine Mt.ofX (by decide) (Nat.le_of_ble_eq_true rfl) (L0 := [some (.ref (ad E l0)), some (.int l1), none, none]) (xEntN_ok [.ref (ad E l0), .int l1] 4) (fun p e s m args below meth c C hr hn => ?_)
  unfold DX7_sumGainsWithout at h
  refine x_aload_n (pc := 0) C dX7_sumGainsWithout_0 rfl rfl ?_
  obtain ⟨k, h⟩ := chk_s h
  have k2 := k
  obtain ⟨u0, σ1, k, h⟩ := bnd_s h
  refine x_callV0 (pc := 1) C (mX7_clearSums E l k) cl5 k2 cX7_258 nX7_clearSums sX7_clearSums rfl rfl (Nat.le_of_ble_eq_true rfl) ⟨Nat.le_of_ble_eq_true rfl, Nat.le_of_ble_eq_true rfl, Nat.le_of_ble_eq_true rfl, Nat.le_of_ble_eq_true rfl⟩ dX7_sumGainsWithout_1 ?_
  refine x_iconst (v := 0) (pc := 4) C dX7_sumGainsWithout_4 (by decide) ?_
  refine x_istore_n (M := [some _, some _, some _, none]) (pc := 5) C dX7_sumGainsWithout_5 rfl (by decide) rfl ?_
  exact x_sub (tX7_sumGainsWithout_6 C hr FU _ _ _ _ h) (xLe_s (xLe_s (xLe_s (xLe_n xLe_0))))
def DX7_harmed_17 (σ : Sg) : Option (Int32 × Sg) :=
  some ((-1 : Int32), σ)
theorem tX7_harmed_17 {r : Int32} {σ' : Sg} (C : Cx E p s m args meth c RX7 cX7_harmed 7) (hr : meth.sig.returnType = (some .int)) {σ : Sg} (h : DX7_harmed_17  σ = some (r, σ')) : Y E p l e (rmA 7 0 0) s m args below meth c (some (.int r)) σ' 0 0 7 0 0 σ 17 [none, none, none, none, none, none, none] [] := by
  unfold DX7_harmed_17 at h
  refine x_iconst (v := -1) (pc := 17) C dX7_harmed_17 (by decide) ?_
  cases h
  exact x_iret C hr dX7_harmed_18
def DX7_harmed_85 (K44 : Nat → Int32 → Int32 → Int32 → Int32 → Int32 → Sg → Option (Int32 × Sg)) (l0 : Nat) (l2 : Int32) (l3 : Int32) (l4 : Int32) (l5 : Int32) (l6 : Int32) (σ : Sg) : Option (Int32 × Sg) :=
  K44 l0 l2 l3 l4 l5 (l6 + (1 : Int32)) σ
theorem tX7_harmed_85 {r : Int32} {σ' : Sg} (C : Cx E p s m args meth c RX7 cX7_harmed 7) (hr : meth.sig.returnType = (some .int)) {K44 : Nat → Int32 → Int32 → Int32 → Int32 → Int32 → Sg → Option (Int32 × Sg)} (hK44 : ∀ (l0 : Nat) (l2 : Int32) (l3 : Int32) (l4 : Int32) (l5 : Int32) (l6 : Int32) (σ : Sg), K44 l0 l2 l3 l4 l5 l6 σ = some (r, σ') → Y E p l e (rmA 7 0 0) s m args below meth c (some (.int r)) σ' 0 0 7 0 0 σ 44 [some (.ref (ad E l0)), none, some (.int l2), some (.int l3), some (.int l4), some (.int l5), some (.int l6)] []) {l0 : Nat} {l2 : Int32} {l3 : Int32} {l4 : Int32} {l5 : Int32} {l6 : Int32} {σ : Sg} (h : DX7_harmed_85 K44 l0 l2 l3 l4 l5 l6 σ = some (r, σ')) : Y E p l e (rmA 7 0 0) s m args below meth c (some (.int r)) σ' 0 0 7 0 0 σ 85 [some (.ref (ad E l0)), none, some (.int l2), some (.int l3), some (.int l4), some (.int l5), some (.int l6)] [] := by
  unfold DX7_harmed_85 at h
  refine x_iinc (v := 1) (M := [some _, none, some _, some _, some _, some _, some _]) (pc := 85) C dX7_harmed_85 rfl (by decide) (by decide) rfl ?_
  refine x_goto (tgt := 44) (pc := 88) C dX7_harmed_88 (by decide) ?_
  exact x_sub (hK44 _ _ _ _ _ _ _ h) (xLe_s (xLe_n (xLe_s (xLe_s (xLe_s (xLe_s (xLe_s xLe_0)))))))
def DX7_harmed_116 (s0 : Int32) (σ : Sg) : Option (Int32 × Sg) :=
  some (s0, σ)
theorem tX7_harmed_116 {r : Int32} {σ' : Sg} (C : Cx E p s m args meth c RX7 cX7_harmed 7) (hr : meth.sig.returnType = (some .int)) {s0 : Int32} {σ : Sg} (h : DX7_harmed_116 s0 σ = some (r, σ')) : Y E p l e (rmA 7 0 0) s m args below meth c (some (.int r)) σ' 0 0 7 0 0 σ 116 [none, none, none, none, none, none, none] [.int s0] := by
  unfold DX7_harmed_116 at h
  cases h
  exact x_iret C hr dX7_harmed_116
def DX7_harmed_109 (l4 : Int32) (σ : Sg) : Option (Int32 × Sg) :=
  DX7_harmed_116 l4 σ
theorem tX7_harmed_109 {r : Int32} {σ' : Sg} (C : Cx E p s m args meth c RX7 cX7_harmed 7) (hr : meth.sig.returnType = (some .int)) {l4 : Int32} {σ : Sg} (h : DX7_harmed_109 l4 σ = some (r, σ')) : Y E p l e (rmA 7 0 0) s m args below meth c (some (.int r)) σ' 0 0 7 0 0 σ 109 [none, none, none, none, some (.int l4), none, none] [] := by
  unfold DX7_harmed_109 at h
  refine x_iload (pc := 109) C dX7_harmed_109 rfl ?_
  refine x_goto (tgt := 116) (pc := 111) C dX7_harmed_111 (by decide) ?_
  exact x_sub (tX7_harmed_116 C hr h) (xLe_n (xLe_n (xLe_n (xLe_n (xLe_n (xLe_n (xLe_n xLe_0)))))))
def DX7_harmed_91 (l2 : Int32) (l4 : Int32) (l5 : Int32) (σ : Sg) : Option (Int32 × Sg) :=
  if l4 = (-1 : Int32) then
    some ((-2 : Int32), σ)
  else
    if l2 = 0 then
      DX7_harmed_109 l4 σ
    else
      if l2 = (2 : Int32) then
        DX7_harmed_109 l4 σ
      else
        DX7_harmed_116 l5 σ
theorem tX7_harmed_91 {r : Int32} {σ' : Sg} (C : Cx E p s m args meth c RX7 cX7_harmed 7) (hr : meth.sig.returnType = (some .int)) {l2 : Int32} {l4 : Int32} {l5 : Int32} {σ : Sg} (h : DX7_harmed_91 l2 l4 l5 σ = some (r, σ')) : Y E p l e (rmA 7 0 0) s m args below meth c (some (.int r)) σ' 0 0 7 0 0 σ 91 [none, none, some (.int l2), none, some (.int l4), some (.int l5), none] [] := by
  unfold DX7_harmed_91 at h
  refine x_iload (pc := 91) C dX7_harmed_91 rfl ?_
  refine x_iconst (v := -1) (pc := 93) C dX7_harmed_93 (by decide) ?_
  refine x_icmp_ne (pc := 94) (tgt := 100) C dX7_harmed_94 (by decide) (fun q => ?_) (fun q => ?_)
  · rw [if_pos q] at h
    refine x_bipush (v := -2) (pc := 97) C dX7_harmed_97 (by decide) ?_
    cases h
    exact x_iret C hr dX7_harmed_99
  · rw [if_neg q] at h
    refine x_iload_n (pc := 100) C dX7_harmed_100 rfl rfl ?_
    refine x_if_eq (pc := 101) (tgt := 109) C dX7_harmed_101 (by decide) (fun q => ?_) (fun q => ?_)
    · rw [if_pos q] at h
      exact x_sub (tX7_harmed_109 C hr h) (xLe_n (xLe_n (xLe_n (xLe_n (xLe_s (xLe_n (xLe_n xLe_0)))))))
    · rw [if_neg q] at h
      refine x_iload_n (pc := 104) C dX7_harmed_104 rfl rfl ?_
      refine x_iconst (v := 2) (pc := 105) C dX7_harmed_105 (by decide) ?_
      refine x_icmp_ne (pc := 106) (tgt := 114) C dX7_harmed_106 (by decide) (fun q => ?_) (fun q => ?_)
      · rw [if_pos q] at h
        exact x_sub (tX7_harmed_109 C hr h) (xLe_n (xLe_n (xLe_n (xLe_n (xLe_s (xLe_n (xLe_n xLe_0)))))))
      · rw [if_neg q] at h
        refine x_iload (pc := 114) C dX7_harmed_114 rfl ?_
        exact x_sub (tX7_harmed_116 C hr h) (xLe_n (xLe_n (xLe_n (xLe_n (xLe_n (xLe_n (xLe_n xLe_0)))))))
def DX7_harmed_44 : Nat → Nat → Int32 → Int32 → Int32 → Int32 → Int32 → Sg → Option (Int32 × Sg)
  | 0, _, _, _, _, _, _, _ => none
  | n + 1, l0, l2, l3, l4, l5, l6, σ =>
    chk (ckO σ 5 l0) <|
    chk (ckV (gR σ l0 2)) <|
    chk (ckO σ 0 (gR σ l0 2)) <|
    if (gI σ (gR σ l0 2) 2) ≤ l6 then
      DX7_harmed_91 l2 l4 l5 σ
    else
      chk (ckO σ 5 l0) <|
      chk (ckV (gR σ l0 9)) <|
      chk (ckI σ (gR σ l0 9) l6) <|
      if (l3 * (aI σ (gR σ l0 9) l6.toNatClampNeg)) ≤ l5 then
        DX7_harmed_85 (DX7_harmed_44 n) l0 l2 l3 l4 l5 l6 σ
      else
        chk (ckO σ 5 l0) <|
        chk (ckV (gR σ l0 9)) <|
        chk (ckI σ (gR σ l0 9) l6) <|
        DX7_harmed_85 (DX7_harmed_44 n) l0 l2 l3 l6 (l3 * (aI σ (gR σ l0 9) l6.toNatClampNeg)) l6 σ
theorem tX7_harmed_44 {r : Int32} {σ' : Sg} (C : Cx E p s m args meth c RX7 cX7_harmed 7) (hr : meth.sig.returnType = (some .int)) : ∀ (n : Nat) (l0 : Nat) (l2 : Int32) (l3 : Int32) (l4 : Int32) (l5 : Int32) (l6 : Int32) (σ : Sg) (h : DX7_harmed_44 n l0 l2 l3 l4 l5 l6 σ = some (r, σ')), Y E p l e (rmA 7 0 0) s m args below meth c (some (.int r)) σ' 0 0 7 0 0 σ 44 [some (.ref (ad E l0)), none, some (.int l2), some (.int l3), some (.int l4), some (.int l5), some (.int l6)] [] := by
  intro n
  induction n with
  | zero => intro l0 l2 l3 l4 l5 l6 σ h; cases h
  | succ n ih =>
    intro l0 l2 l3 l4 l5 l6 σ h
    unfold DX7_harmed_44 at h
    refine x_iload (pc := 44) C dX7_harmed_44 rfl ?_
    refine x_aload_n (pc := 46) C dX7_harmed_46 rfl rfl ?_
    obtain ⟨k, h⟩ := chk_s h
    have k2 := k
    obtain ⟨k, h⟩ := chk_s h
    refine x_getR (pc := 47) C fX7_20 rfl k2 k dX7_harmed_47 ?_
    obtain ⟨k, h⟩ := chk_s h
    refine x_getI (pc := 50) C fX7_94 rfl k dX7_harmed_50 ?_
    refine x_icmp_ge (pc := 53) (tgt := 91) C dX7_harmed_53 (by decide) (fun q => ?_) (fun q => ?_)
    · rw [if_pos q] at h
      exact x_sub (tX7_harmed_91 C hr h) (xLe_n (xLe_n (xLe_s (xLe_n (xLe_s (xLe_s (xLe_n xLe_0)))))))
    · rw [if_neg q] at h
      refine x_iload_n (pc := 56) C dX7_harmed_56 rfl rfl ?_
      refine x_aload_n (pc := 57) C dX7_harmed_57 rfl rfl ?_
      obtain ⟨k, h⟩ := chk_s h
      have k2 := k
      obtain ⟨k, h⟩ := chk_s h
      refine x_getR (pc := 58) C fX7_62 rfl k2 k dX7_harmed_58 ?_
      refine x_iload (pc := 61) C dX7_harmed_61 rfl ?_
      obtain ⟨k, h⟩ := chk_s h
      refine x_iald (pc := 63) C k dX7_harmed_63 ?_
      refine x_imul (pc := 64) C dX7_harmed_64 ?_
      refine x_iload (pc := 65) C dX7_harmed_65 rfl ?_
      refine x_icmp_le (pc := 67) (tgt := 85) C dX7_harmed_67 (by decide) (fun q => ?_) (fun q => ?_)
      · rw [if_pos q] at h
        exact x_sub (tX7_harmed_85 C hr ih h) (xLe_s (xLe_n (xLe_s (xLe_s (xLe_s (xLe_s (xLe_s xLe_0)))))))
      · rw [if_neg q] at h
        refine x_iload_n (pc := 70) C dX7_harmed_70 rfl rfl ?_
        refine x_aload_n (pc := 71) C dX7_harmed_71 rfl rfl ?_
        obtain ⟨k, h⟩ := chk_s h
        have k2 := k
        obtain ⟨k, h⟩ := chk_s h
        refine x_getR (pc := 72) C fX7_62 rfl k2 k dX7_harmed_72 ?_
        refine x_iload (pc := 75) C dX7_harmed_75 rfl ?_
        obtain ⟨k, h⟩ := chk_s h
        refine x_iald (pc := 77) C k dX7_harmed_77 ?_
        refine x_imul (pc := 78) C dX7_harmed_78 ?_
        refine x_istore (M := [some _, none, some _, some _, some _, some _, some _]) (pc := 79) C dX7_harmed_79 (by decide) rfl ?_
        refine x_iload (pc := 81) C dX7_harmed_81 rfl ?_
        refine x_istore (M := [some _, none, some _, some _, some _, some _, some _]) (pc := 83) C dX7_harmed_83 (by decide) rfl ?_
        exact x_sub (tX7_harmed_85 C hr ih h) (xLe_s (xLe_n (xLe_s (xLe_s (xLe_s (xLe_s (xLe_s xLe_0)))))))
def DX7_harmed_34 (l0 : Nat) (l2 : Int32) (s0 : Int32) (σ : Sg) : Option (Int32 × Sg) :=
  DX7_harmed_44 FU l0 l2 s0 (-1 : Int32) (0 : Int32) (0 : Int32) σ
theorem tX7_harmed_34 {r : Int32} {σ' : Sg} (C : Cx E p s m args meth c RX7 cX7_harmed 7) (hr : meth.sig.returnType = (some .int)) {l0 : Nat} {l2 : Int32} {s0 : Int32} {σ : Sg} (h : DX7_harmed_34 l0 l2 s0 σ = some (r, σ')) : Y E p l e (rmA 7 0 0) s m args below meth c (some (.int r)) σ' 0 0 7 0 0 σ 34 [some (.ref (ad E l0)), none, some (.int l2), none, none, none, none] [.int s0] := by
  unfold DX7_harmed_34 at h
  refine x_istore_n (M := [some _, none, some _, some _, none, none, none]) (pc := 34) C dX7_harmed_34 rfl (by decide) rfl ?_
  refine x_iconst (v := -1) (pc := 35) C dX7_harmed_35 (by decide) ?_
  refine x_istore (M := [some _, none, some _, some _, some _, none, none]) (pc := 36) C dX7_harmed_36 (by decide) rfl ?_
  refine x_iconst (v := 0) (pc := 38) C dX7_harmed_38 (by decide) ?_
  refine x_istore (M := [some _, none, some _, some _, some _, some _, none]) (pc := 39) C dX7_harmed_39 (by decide) rfl ?_
  refine x_iconst (v := 0) (pc := 41) C dX7_harmed_41 (by decide) ?_
  refine x_istore (M := [some _, none, some _, some _, some _, some _, some _]) (pc := 42) C dX7_harmed_42 (by decide) rfl ?_
  exact x_sub (tX7_harmed_44 C hr FU _ _ _ _ _ _ _ h) (xLe_s (xLe_n (xLe_s (xLe_s (xLe_s (xLe_s (xLe_s xLe_0)))))))
def DX7_harmed (l0 : Nat) (l1 : Int32) (l2 : Int32) (σ : Sg) : Option (Int32 × Sg) :=
  chk (ckO σ 5 l0) <|
  bnd (DX7_isProviso l0 l1 σ) fun v1 σ2 =>
  if v1 = 0 then
    DX7_harmed_17 σ2
  else
    if l2 < 0 then
      DX7_harmed_17 σ2
    else
      if l2 ≤ (3 : Int32) then
        chk (ckO σ2 5 l0) <|
        bnd (DX7_sumGainsWithout l0 l1 σ2) fun _ σ3 =>
        if (2 : Int32) ≤ l2 then
          DX7_harmed_34 l0 l2 (-1 : Int32) σ3
        else
          DX7_harmed_34 l0 l2 (1 : Int32) σ3
      else
        DX7_harmed_17 σ2
theorem mX7_harmed (E : Ev) (l : Launch) {l0 : Nat} {l1 : Int32} {l2 : Int32} {σ : Sg} {r : Int32} {σ' : Sg} (h : DX7_harmed l0 l1 l2 σ = some (r, σ')) : Mt E l yX7_harmed cX7_harmed 7 (some .int) 7 0 0 [.ref (ad E l0), .int l1, .int l2] σ (some (.int r)) σ' := by
  refine Mt.ofX (by decide) (Nat.le_of_ble_eq_true rfl) (L0 := [some (.ref (ad E l0)), some (.int l1), some (.int l2), none, none, none, none]) (xEntN_ok [.ref (ad E l0), .int l1, .int l2] 7) (fun p e s m args below meth c C hr hn => ?_)
  unfold DX7_harmed at h
  refine x_aload_n (pc := 0) C dX7_harmed_0 rfl rfl ?_
  refine x_iload_n (pc := 1) C dX7_harmed_1 rfl rfl ?_
  obtain ⟨k, h⟩ := chk_s h
  have k2 := k
  obtain ⟨v1, σ2, k, h⟩ := bnd_s h
  refine x_callV1 (pc := 2) C (mX7_isProviso E l k) cl5 k2 cX7_137 nX7_isProviso sX7_isProviso rfl rfl (Nat.le_of_ble_eq_true rfl) ⟨Nat.le_of_ble_eq_true rfl, Nat.le_of_ble_eq_true rfl, Nat.le_of_ble_eq_true rfl, Nat.le_of_ble_eq_true rfl⟩ dX7_harmed_2 ?_
  refine x_if_eq (pc := 5) (tgt := 17) C dX7_harmed_5 (by decide) (fun q => ?_) (fun q => ?_)
  · rw [if_pos q] at h
    exact x_sub (tX7_harmed_17 C hr h) (xLe_n (xLe_n (xLe_n (xLe_n (xLe_n (xLe_n (xLe_n xLe_0)))))))
  · rw [if_neg q] at h
    refine x_iload_n (pc := 8) C dX7_harmed_8 rfl rfl ?_
    refine x_if_lt (pc := 9) (tgt := 17) C dX7_harmed_9 (by decide) (fun q => ?_) (fun q => ?_)
    · rw [if_pos q] at h
      exact x_sub (tX7_harmed_17 C hr h) (xLe_n (xLe_n (xLe_n (xLe_n (xLe_n (xLe_n (xLe_n xLe_0)))))))
    · rw [if_neg q] at h
      refine x_iload_n (pc := 12) C dX7_harmed_12 rfl rfl ?_
      refine x_iconst (v := 3) (pc := 13) C dX7_harmed_13 (by decide) ?_
      refine x_icmp_le (pc := 14) (tgt := 19) C dX7_harmed_14 (by decide) (fun q => ?_) (fun q => ?_)
      · rw [if_pos q] at h
        refine x_aload_n (pc := 19) C dX7_harmed_19 rfl rfl ?_
        refine x_iload_n (pc := 20) C dX7_harmed_20 rfl rfl ?_
        obtain ⟨k, h⟩ := chk_s h
        have k2 := k
        obtain ⟨u0, σ3, k, h⟩ := bnd_s h
        refine x_callV0 (pc := 21) C (mX7_sumGainsWithout E l k) cl5 k2 cX7_255 nX7_sumGainsWithout sX7_sumGainsWithout rfl rfl (Nat.le_of_ble_eq_true rfl) ⟨Nat.le_of_ble_eq_true rfl, Nat.le_of_ble_eq_true rfl, Nat.le_of_ble_eq_true rfl, Nat.le_of_ble_eq_true rfl⟩ dX7_harmed_21 ?_
        refine x_iload_n (pc := 24) C dX7_harmed_24 rfl rfl ?_
        refine x_iconst (v := 2) (pc := 25) C dX7_harmed_25 (by decide) ?_
        refine x_icmp_ge (pc := 26) (tgt := 33) C dX7_harmed_26 (by decide) (fun q => ?_) (fun q => ?_)
        · rw [if_pos q] at h
          refine x_iconst (v := -1) (pc := 33) C dX7_harmed_33 (by decide) ?_
          exact x_sub (tX7_harmed_34 C hr h) (xLe_s (xLe_n (xLe_s (xLe_n (xLe_n (xLe_n (xLe_n xLe_0)))))))
        · rw [if_neg q] at h
          refine x_iconst (v := 1) (pc := 29) C dX7_harmed_29 (by decide) ?_
          refine x_goto (tgt := 34) (pc := 30) C dX7_harmed_30 (by decide) ?_
          exact x_sub (tX7_harmed_34 C hr h) (xLe_s (xLe_n (xLe_s (xLe_n (xLe_n (xLe_n (xLe_n xLe_0)))))))
      · rw [if_neg q] at h
        exact x_sub (tX7_harmed_17 C hr h) (xLe_n (xLe_n (xLe_n (xLe_n (xLe_n (xLe_n (xLe_n xLe_0)))))))
def DX7_fly (l0 : Nat) (l1 : Int32) (l2 : Int32) (σ : Sg) : Option (Int32 × Sg) :=
  chk (ckO σ 5 l0) <|
  bnd (DX7_isCoupon l0 l1 l2 σ) fun v1 σ2 =>
  if v1 = 0 then
    some ((-1 : Int32), σ2)
  else
    chk (ckO σ2 5 l0) <|
    chk (ckV (gR σ2 l0 5)) <|
    chk (ckO σ2 1 (gR σ2 l0 5)) <|
    chk (ckV (gR σ2 (gR σ2 l0 5) 1)) <|
    chk (ckI σ2 (gR σ2 (gR σ2 l0 5) 1) l1) <|
    if (aI σ2 (gR σ2 (gR σ2 l0 5) 1) l1.toNatClampNeg) ≤ l2 then
      chk (ckO σ2 5 l0) <|
      chk (ckV (gR σ2 l0 5)) <|
      chk (ckO σ2 1 (gR σ2 l0 5)) <|
      chk (ckV (gR σ2 (gR σ2 l0 5) 2)) <|
      chk (ckZ σ2 (gR σ2 (gR σ2 l0 5) 2) l1) <|
      if (aI σ2 (gR σ2 (gR σ2 l0 5) 2) l1.toNatClampNeg) = 0 then
        chk (ckO σ2 5 l0) <|
        chk (ckV (gR σ2 l0 5)) <|
        chk (ckO σ2 1 (gR σ2 l0 5)) <|
        chk (ckV (gR σ2 (gR σ2 l0 5) 1)) <|
        chk (ckI σ2 (gR σ2 (gR σ2 l0 5) 1) l1) <|
        if l2 ≤ (aI σ2 (gR σ2 (gR σ2 l0 5) 1) l1.toNatClampNeg) then
          chk (ckO σ2 5 l0) <|
          bnd (DX7_shareNow l0 l1 l2 σ2) fun v3 σ4 =>
          chk (ckO σ4 5 l0) <|
          chk (ckV (gR σ4 l0 5)) <|
          chk (ckO σ4 1 (gR σ4 l0 5)) <|
          bnd (DX2_flyNext (gR σ4 l0 5) l1 v3 σ4) fun _ σ5 =>
          some (v3, σ5)
        else
          some ((-4 : Int32), σ2)
      else
        some ((-3 : Int32), σ2)
    else
      some ((-2 : Int32), σ2)
theorem mX7_fly (E : Ev) (l : Launch) {l0 : Nat} {l1 : Int32} {l2 : Int32} {σ : Sg} {r : Int32} {σ' : Sg} (h : DX7_fly l0 l1 l2 σ = some (r, σ')) : Mt E l yX7_fly cX7_fly 4 (some .int) 7 0 0 [.ref (ad E l0), .int l1, .int l2] σ (some (.int r)) σ' := by
  refine Mt.ofX (by decide) (Nat.le_of_ble_eq_true rfl) (L0 := [some (.ref (ad E l0)), some (.int l1), some (.int l2), none]) (xEntN_ok [.ref (ad E l0), .int l1, .int l2] 4) (fun p e s m args below meth c C hr hn => ?_)
  unfold DX7_fly at h
  refine x_aload_n (pc := 0) C dX7_fly_0 rfl rfl ?_
  refine x_iload_n (pc := 1) C dX7_fly_1 rfl rfl ?_
  refine x_iload_n (pc := 2) C dX7_fly_2 rfl rfl ?_
  obtain ⟨k, h⟩ := chk_s h
  have k2 := k
  obtain ⟨v1, σ2, k, h⟩ := bnd_s h
  refine x_callV1 (pc := 3) C (mX7_isCoupon E l k) cl5 k2 cX7_197 nX7_isCoupon sX7_isCoupon rfl rfl (Nat.le_of_ble_eq_true rfl) ⟨Nat.le_of_ble_eq_true rfl, Nat.le_of_ble_eq_true rfl, Nat.le_of_ble_eq_true rfl, Nat.le_of_ble_eq_true rfl⟩ dX7_fly_3 ?_
  refine x_if_ne (pc := 6) (tgt := 11) C dX7_fly_6 (by decide) (fun q => ?_) (fun q => ?_)
  · rw [if_pos q] at h
    refine x_iconst (v := -1) (pc := 9) C dX7_fly_9 (by decide) ?_
    cases h
    exact x_iret C hr dX7_fly_10
  · rw [if_neg q] at h
    refine x_iload_n (pc := 11) C dX7_fly_11 rfl rfl ?_
    refine x_aload_n (pc := 12) C dX7_fly_12 rfl rfl ?_
    obtain ⟨k, h⟩ := chk_s h
    have k2 := k
    obtain ⟨k, h⟩ := chk_s h
    refine x_getR (pc := 13) C fX7_39 rfl k2 k dX7_fly_13 ?_
    obtain ⟨k, h⟩ := chk_s h
    have k2 := k
    obtain ⟨k, h⟩ := chk_s h
    refine x_getR (pc := 16) C fX7_175 rfl k2 k dX7_fly_16 ?_
    refine x_iload_n (pc := 19) C dX7_fly_19 rfl rfl ?_
    obtain ⟨k, h⟩ := chk_s h
    refine x_iald (pc := 20) C k dX7_fly_20 ?_
    refine x_icmp_ge (pc := 21) (tgt := 27) C dX7_fly_21 (by decide) (fun q => ?_) (fun q => ?_)
    · rw [if_pos q] at h
      refine x_aload_n (pc := 27) C dX7_fly_27 rfl rfl ?_
      obtain ⟨k, h⟩ := chk_s h
      have k2 := k
      obtain ⟨k, h⟩ := chk_s h
      refine x_getR (pc := 28) C fX7_39 rfl k2 k dX7_fly_28 ?_
      obtain ⟨k, h⟩ := chk_s h
      have k2 := k
      obtain ⟨k, h⟩ := chk_s h
      refine x_getR (pc := 31) C fX7_181 rfl k2 k dX7_fly_31 ?_
      refine x_iload_n (pc := 34) C dX7_fly_34 rfl rfl ?_
      obtain ⟨k, h⟩ := chk_s h
      refine x_zald (pc := 35) C k dX7_fly_35 ?_
      refine x_if_eq (pc := 36) (tgt := 42) C dX7_fly_36 (by decide) (fun q => ?_) (fun q => ?_)
      · rw [if_pos q] at h
        refine x_iload_n (pc := 42) C dX7_fly_42 rfl rfl ?_
        refine x_aload_n (pc := 43) C dX7_fly_43 rfl rfl ?_
        obtain ⟨k, h⟩ := chk_s h
        have k2 := k
        obtain ⟨k, h⟩ := chk_s h
        refine x_getR (pc := 44) C fX7_39 rfl k2 k dX7_fly_44 ?_
        obtain ⟨k, h⟩ := chk_s h
        have k2 := k
        obtain ⟨k, h⟩ := chk_s h
        refine x_getR (pc := 47) C fX7_175 rfl k2 k dX7_fly_47 ?_
        refine x_iload_n (pc := 50) C dX7_fly_50 rfl rfl ?_
        obtain ⟨k, h⟩ := chk_s h
        refine x_iald (pc := 51) C k dX7_fly_51 ?_
        refine x_icmp_le (pc := 52) (tgt := 58) C dX7_fly_52 (by decide) (fun q => ?_) (fun q => ?_)
        · rw [if_pos q] at h
          refine x_aload_n (pc := 58) C dX7_fly_58 rfl rfl ?_
          refine x_iload_n (pc := 59) C dX7_fly_59 rfl rfl ?_
          refine x_iload_n (pc := 60) C dX7_fly_60 rfl rfl ?_
          obtain ⟨k, h⟩ := chk_s h
          have k2 := k
          obtain ⟨v3, σ4, k, h⟩ := bnd_s h
          refine x_callV1 (pc := 61) C (mX7_shareNow E l k) cl5 k2 cX7_230 nX7_shareNow sX7_shareNow rfl rfl (Nat.le_of_ble_eq_true rfl) ⟨Nat.le_of_ble_eq_true rfl, Nat.le_of_ble_eq_true rfl, Nat.le_of_ble_eq_true rfl, Nat.le_of_ble_eq_true rfl⟩ dX7_fly_61 ?_
          refine x_istore_n (M := [some _, some _, some _, some _]) (pc := 64) C dX7_fly_64 rfl (by decide) rfl ?_
          refine x_aload_n (pc := 65) C dX7_fly_65 rfl rfl ?_
          obtain ⟨k, h⟩ := chk_s h
          have k2 := k
          obtain ⟨k, h⟩ := chk_s h
          refine x_getR (pc := 66) C fX7_39 rfl k2 k dX7_fly_66 ?_
          refine x_iload_n (pc := 69) C dX7_fly_69 rfl rfl ?_
          refine x_iload_n (pc := 70) C dX7_fly_70 rfl rfl ?_
          obtain ⟨k, h⟩ := chk_s h
          have k2 := k
          obtain ⟨u0, σ5, k, h⟩ := bnd_s h
          refine x_callV0 (pc := 71) C (mX2_flyNext E l k) cl1 k2 cX7_261 nX2_flyNext sX2_flyNext rfl rfl (Nat.le_of_ble_eq_true rfl) ⟨Nat.le_of_ble_eq_true rfl, Nat.le_of_ble_eq_true rfl, Nat.le_of_ble_eq_true rfl, Nat.le_of_ble_eq_true rfl⟩ dX7_fly_71 ?_
          refine x_iload_n (pc := 74) C dX7_fly_74 rfl rfl ?_
          cases h
          exact x_iret C hr dX7_fly_75
        · rw [if_neg q] at h
          refine x_bipush (v := -4) (pc := 55) C dX7_fly_55 (by decide) ?_
          cases h
          exact x_iret C hr dX7_fly_57
      · rw [if_neg q] at h
        refine x_bipush (v := -3) (pc := 39) C dX7_fly_39 (by decide) ?_
        cases h
        exact x_iret C hr dX7_fly_41
    · rw [if_neg q] at h
      refine x_bipush (v := -2) (pc := 24) C dX7_fly_24 (by decide) ?_
      cases h
      exact x_iret C hr dX7_fly_26
def DX7_endorsingRefused_17 (σ : Sg) : Option (Int32 × Sg) :=
  some ((-1 : Int32), σ)
theorem tX7_endorsingRefused_17 {r : Int32} {σ' : Sg} (C : Cx E p s m args meth c RX7 cX7_endorsingRefused 4) (hr : meth.sig.returnType = (some .int)) {σ : Sg} (h : DX7_endorsingRefused_17  σ = some (r, σ')) : Y E p l e (rmA 3 0 0) s m args below meth c (some (.int r)) σ' 0 0 4 0 0 σ 17 [none, none, none, none] [] := by
  unfold DX7_endorsingRefused_17 at h
  refine x_iconst (v := -1) (pc := 17) C dX7_endorsingRefused_17 (by decide) ?_
  cases h
  exact x_iret C hr dX7_endorsingRefused_18
def DX7_endorsingRefused_53 (s0 : Int32) (σ : Sg) : Option (Int32 × Sg) :=
  some (s0, σ)
theorem tX7_endorsingRefused_53 {r : Int32} {σ' : Sg} (C : Cx E p s m args meth c RX7 cX7_endorsingRefused 4) (hr : meth.sig.returnType = (some .int)) {s0 : Int32} {σ : Sg} (h : DX7_endorsingRefused_53 s0 σ = some (r, σ')) : Y E p l e (rmA 3 0 0) s m args below meth c (some (.int r)) σ' 0 0 4 0 0 σ 53 [none, none, none, none] [.int s0] := by
  unfold DX7_endorsingRefused_53 at h
  cases h
  exact x_iret C hr dX7_endorsingRefused_53
def DX7_endorsingRefused (l0 : Nat) (l1 : Int32) (l2 : Int32) (l3 : Int32) (σ : Sg) : Option (Int32 × Sg) :=
  chk (ckO σ 5 l0) <|
  bnd (DX7_isCoupon l0 l1 l2 σ) fun v1 σ2 =>
  if v1 = 0 then
    DX7_endorsingRefused_17 σ2
  else
    chk (ckO σ2 5 l0) <|
    bnd (DX7_isCarrier l0 l3 σ2) fun v3 σ4 =>
    if v3 = 0 then
      DX7_endorsingRefused_17 σ4
    else
      chk (ckO σ4 5 l0) <|
      chk (ckV (gR σ4 l0 5)) <|
      chk (ckO σ4 1 (gR σ4 l0 5)) <|
      chk (ckV (gR σ4 (gR σ4 l0 5) 1)) <|
      chk (ckI σ4 (gR σ4 (gR σ4 l0 5) 1) l1) <|
      if (aI σ4 (gR σ4 (gR σ4 l0 5) 1) l1.toNatClampNeg) ≤ l2 then
        chk (ckO σ4 5 l0) <|
        chk (ckV (gR σ4 l0 5)) <|
        chk (ckO σ4 1 (gR σ4 l0 5)) <|
        chk (ckV (gR σ4 (gR σ4 l0 5) 2)) <|
        chk (ckZ σ4 (gR σ4 (gR σ4 l0 5) 2) l1) <|
        if (aI σ4 (gR σ4 (gR σ4 l0 5) 2) l1.toNatClampNeg) = 0 then
          DX7_endorsingRefused_53 (0 : Int32) σ4
        else
          DX7_endorsingRefused_53 (-3 : Int32) σ4
      else
        some ((-2 : Int32), σ4)
theorem mX7_endorsingRefused (E : Ev) (l : Launch) {l0 : Nat} {l1 : Int32} {l2 : Int32} {l3 : Int32} {σ : Sg} {r : Int32} {σ' : Sg} (h : DX7_endorsingRefused l0 l1 l2 l3 σ = some (r, σ')) : Mt E l yX7_endorsingRefused cX7_endorsingRefused 4 (some .int) 3 0 0 [.ref (ad E l0), .int l1, .int l2, .int l3] σ (some (.int r)) σ' := by
  refine Mt.ofX (by decide) (Nat.le_of_ble_eq_true rfl) (L0 := [some (.ref (ad E l0)), some (.int l1), some (.int l2), some (.int l3)]) (xEntN_ok [.ref (ad E l0), .int l1, .int l2, .int l3] 4) (fun p e s m args below meth c C hr hn => ?_)
  unfold DX7_endorsingRefused at h
  refine x_aload_n (pc := 0) C dX7_endorsingRefused_0 rfl rfl ?_
  refine x_iload_n (pc := 1) C dX7_endorsingRefused_1 rfl rfl ?_
  refine x_iload_n (pc := 2) C dX7_endorsingRefused_2 rfl rfl ?_
  obtain ⟨k, h⟩ := chk_s h
  have k2 := k
  obtain ⟨v1, σ2, k, h⟩ := bnd_s h
  refine x_callV1 (pc := 3) C (mX7_isCoupon E l k) cl5 k2 cX7_197 nX7_isCoupon sX7_isCoupon rfl rfl (Nat.le_of_ble_eq_true rfl) ⟨Nat.le_of_ble_eq_true rfl, Nat.le_of_ble_eq_true rfl, Nat.le_of_ble_eq_true rfl, Nat.le_of_ble_eq_true rfl⟩ dX7_endorsingRefused_3 ?_
  refine x_if_eq (pc := 6) (tgt := 17) C dX7_endorsingRefused_6 (by decide) (fun q => ?_) (fun q => ?_)
  · rw [if_pos q] at h
    exact x_sub (tX7_endorsingRefused_17 C hr h) (xLe_n (xLe_n (xLe_n (xLe_n xLe_0))))
  · rw [if_neg q] at h
    refine x_aload_n (pc := 9) C dX7_endorsingRefused_9 rfl rfl ?_
    refine x_iload_n (pc := 10) C dX7_endorsingRefused_10 rfl rfl ?_
    obtain ⟨k, h⟩ := chk_s h
    have k2 := k
    obtain ⟨v3, σ4, k, h⟩ := bnd_s h
    refine x_callV1 (pc := 11) C (mX7_isCarrier E l k) cl5 k2 cX7_130 nX7_isCarrier sX7_isCarrier rfl rfl (Nat.le_of_ble_eq_true rfl) ⟨Nat.le_of_ble_eq_true rfl, Nat.le_of_ble_eq_true rfl, Nat.le_of_ble_eq_true rfl, Nat.le_of_ble_eq_true rfl⟩ dX7_endorsingRefused_11 ?_
    refine x_if_ne (pc := 14) (tgt := 19) C dX7_endorsingRefused_14 (by decide) (fun q => ?_) (fun q => ?_)
    · rw [if_pos q] at h
      exact x_sub (tX7_endorsingRefused_17 C hr h) (xLe_n (xLe_n (xLe_n (xLe_n xLe_0))))
    · rw [if_neg q] at h
      refine x_iload_n (pc := 19) C dX7_endorsingRefused_19 rfl rfl ?_
      refine x_aload_n (pc := 20) C dX7_endorsingRefused_20 rfl rfl ?_
      obtain ⟨k, h⟩ := chk_s h
      have k2 := k
      obtain ⟨k, h⟩ := chk_s h
      refine x_getR (pc := 21) C fX7_39 rfl k2 k dX7_endorsingRefused_21 ?_
      obtain ⟨k, h⟩ := chk_s h
      have k2 := k
      obtain ⟨k, h⟩ := chk_s h
      refine x_getR (pc := 24) C fX7_175 rfl k2 k dX7_endorsingRefused_24 ?_
      refine x_iload_n (pc := 27) C dX7_endorsingRefused_27 rfl rfl ?_
      obtain ⟨k, h⟩ := chk_s h
      refine x_iald (pc := 28) C k dX7_endorsingRefused_28 ?_
      refine x_icmp_ge (pc := 29) (tgt := 35) C dX7_endorsingRefused_29 (by decide) (fun q => ?_) (fun q => ?_)
      · rw [if_pos q] at h
        refine x_aload_n (pc := 35) C dX7_endorsingRefused_35 rfl rfl ?_
        obtain ⟨k, h⟩ := chk_s h
        have k2 := k
        obtain ⟨k, h⟩ := chk_s h
        refine x_getR (pc := 36) C fX7_39 rfl k2 k dX7_endorsingRefused_36 ?_
        obtain ⟨k, h⟩ := chk_s h
        have k2 := k
        obtain ⟨k, h⟩ := chk_s h
        refine x_getR (pc := 39) C fX7_181 rfl k2 k dX7_endorsingRefused_39 ?_
        refine x_iload_n (pc := 42) C dX7_endorsingRefused_42 rfl rfl ?_
        obtain ⟨k, h⟩ := chk_s h
        refine x_zald (pc := 43) C k dX7_endorsingRefused_43 ?_
        refine x_if_eq (pc := 44) (tgt := 52) C dX7_endorsingRefused_44 (by decide) (fun q => ?_) (fun q => ?_)
        · rw [if_pos q] at h
          refine x_iconst (v := 0) (pc := 52) C dX7_endorsingRefused_52 (by decide) ?_
          exact x_sub (tX7_endorsingRefused_53 C hr h) (xLe_n (xLe_n (xLe_n (xLe_n xLe_0))))
        · rw [if_neg q] at h
          refine x_bipush (v := -3) (pc := 47) C dX7_endorsingRefused_47 (by decide) ?_
          refine x_goto (tgt := 53) (pc := 49) C dX7_endorsingRefused_49 (by decide) ?_
          exact x_sub (tX7_endorsingRefused_53 C hr h) (xLe_n (xLe_n (xLe_n (xLe_n xLe_0))))
      · rw [if_neg q] at h
        refine x_bipush (v := -2) (pc := 32) C dX7_endorsingRefused_32 (by decide) ?_
        cases h
        exact x_iret C hr dX7_endorsingRefused_34
def DX7_endorse (l0 : Nat) (l1 : Int32) (l2 : Int32) (l3 : Int32) (σ : Sg) : Option (Int32 × Sg) :=
  chk (ckO σ 5 l0) <|
  bnd (DX7_endorsingRefused l0 l1 l2 l3 σ) fun v1 σ2 =>
  if v1 = 0 then
    chk (ckO σ2 5 l0) <|
    chk (ckV (gR σ2 l0 5)) <|
    chk (ckO σ2 1 (gR σ2 l0 5)) <|
    chk (ckV (gR σ2 (gR σ2 l0 5) 3)) <|
    chk (ckG σ2 (gR σ2 (gR σ2 l0 5) 3) l1) <|
    chk (ckR σ2 (gR σ2 (gR σ2 l0 5) 3) l1.toNatClampNeg l2) <|
    if (aG σ2 (gR σ2 (gR σ2 l0 5) 3) l1.toNatClampNeg l2.toNatClampNeg) = l3 then
      some ((-4 : Int32), σ2)
    else
      chk (ckO σ2 5 l0) <|
      chk (ckV (gR σ2 l0 5)) <|
      chk (ckO σ2 1 (gR σ2 l0 5)) <|
      bnd (DX2_endorseTo (gR σ2 l0 5) l1 l2 l3 σ2) fun _ σ3 =>
      chk (ckO σ3 5 l0) <|
      bnd (DX7_shareNow l0 l1 l2 σ3) fun v4 σ5 =>
      some (v4, σ5)
  else
    some (v1, σ2)
theorem mX7_endorse (E : Ev) (l : Launch) {l0 : Nat} {l1 : Int32} {l2 : Int32} {l3 : Int32} {σ : Sg} {r : Int32} {σ' : Sg} (h : DX7_endorse l0 l1 l2 l3 σ = some (r, σ')) : Mt E l yX7_endorse cX7_endorse 5 (some .int) 7 0 0 [.ref (ad E l0), .int l1, .int l2, .int l3] σ (some (.int r)) σ' := by
  refine Mt.ofX (by decide) (Nat.le_of_ble_eq_true rfl) (L0 := [some (.ref (ad E l0)), some (.int l1), some (.int l2), some (.int l3), none]) (xEntN_ok [.ref (ad E l0), .int l1, .int l2, .int l3] 5) (fun p e s m args below meth c C hr hn => ?_)
  unfold DX7_endorse at h
  refine x_aload_n (pc := 0) C dX7_endorse_0 rfl rfl ?_
  refine x_iload_n (pc := 1) C dX7_endorse_1 rfl rfl ?_
  refine x_iload_n (pc := 2) C dX7_endorse_2 rfl rfl ?_
  refine x_iload_n (pc := 3) C dX7_endorse_3 rfl rfl ?_
  obtain ⟨k, h⟩ := chk_s h
  have k2 := k
  obtain ⟨v1, σ2, k, h⟩ := bnd_s h
  refine x_callV1 (pc := 4) C (mX7_endorsingRefused E l k) cl5 k2 cX7_264 nX7_endorsingRefused sX7_endorsingRefused rfl rfl (Nat.le_of_ble_eq_true rfl) ⟨Nat.le_of_ble_eq_true rfl, Nat.le_of_ble_eq_true rfl, Nat.le_of_ble_eq_true rfl, Nat.le_of_ble_eq_true rfl⟩ dX7_endorse_4 ?_
  refine x_istore (M := [some _, some _, some _, some _, some _]) (pc := 7) C dX7_endorse_7 (by decide) rfl ?_
  refine x_iload (pc := 9) C dX7_endorse_9 rfl ?_
  refine x_if_eq (pc := 11) (tgt := 17) C dX7_endorse_11 (by decide) (fun q => ?_) (fun q => ?_)
  · rw [if_pos q] at h
    refine x_aload_n (pc := 17) C dX7_endorse_17 rfl rfl ?_
    obtain ⟨k, h⟩ := chk_s h
    have k2 := k
    obtain ⟨k, h⟩ := chk_s h
    refine x_getR (pc := 18) C fX7_39 rfl k2 k dX7_endorse_18 ?_
    obtain ⟨k, h⟩ := chk_s h
    have k2 := k
    obtain ⟨k, h⟩ := chk_s h
    refine x_getR (pc := 21) C fX7_200 rfl k2 k dX7_endorse_21 ?_
    refine x_iload_n (pc := 24) C dX7_endorse_24 rfl rfl ?_
    obtain ⟨k, h⟩ := chk_s h
    refine x_gald (pc := 25) C k dX7_endorse_25 ?_
    refine x_iload_n (pc := 26) C dX7_endorse_26 rfl rfl ?_
    obtain ⟨k, h⟩ := chk_s h
    refine x_rald (pc := 27) C k dX7_endorse_27 ?_
    refine x_iload_n (pc := 28) C dX7_endorse_28 rfl rfl ?_
    refine x_icmp_ne (pc := 29) (tgt := 35) C dX7_endorse_29 (by decide) (fun q => ?_) (fun q => ?_)
    · rw [if_pos q] at h
      refine x_bipush (v := -4) (pc := 32) C dX7_endorse_32 (by decide) ?_
      cases h
      exact x_iret C hr dX7_endorse_34
    · rw [if_neg q] at h
      refine x_aload_n (pc := 35) C dX7_endorse_35 rfl rfl ?_
      obtain ⟨k, h⟩ := chk_s h
      have k2 := k
      obtain ⟨k, h⟩ := chk_s h
      refine x_getR (pc := 36) C fX7_39 rfl k2 k dX7_endorse_36 ?_
      refine x_iload_n (pc := 39) C dX7_endorse_39 rfl rfl ?_
      refine x_iload_n (pc := 40) C dX7_endorse_40 rfl rfl ?_
      refine x_iload_n (pc := 41) C dX7_endorse_41 rfl rfl ?_
      obtain ⟨k, h⟩ := chk_s h
      have k2 := k
      obtain ⟨u0, σ3, k, h⟩ := bnd_s h
      refine x_callV0 (pc := 42) C (mX2_endorseTo E l k) cl1 k2 cX7_267 nX2_endorseTo sX2_endorseTo rfl rfl (Nat.le_of_ble_eq_true rfl) ⟨Nat.le_of_ble_eq_true rfl, Nat.le_of_ble_eq_true rfl, Nat.le_of_ble_eq_true rfl, Nat.le_of_ble_eq_true rfl⟩ dX7_endorse_42 ?_
      refine x_aload_n (pc := 45) C dX7_endorse_45 rfl rfl ?_
      refine x_iload_n (pc := 46) C dX7_endorse_46 rfl rfl ?_
      refine x_iload_n (pc := 47) C dX7_endorse_47 rfl rfl ?_
      obtain ⟨k, h⟩ := chk_s h
      have k2 := k
      obtain ⟨v4, σ5, k, h⟩ := bnd_s h
      refine x_callV1 (pc := 48) C (mX7_shareNow E l k) cl5 k2 cX7_230 nX7_shareNow sX7_shareNow rfl rfl (Nat.le_of_ble_eq_true rfl) ⟨Nat.le_of_ble_eq_true rfl, Nat.le_of_ble_eq_true rfl, Nat.le_of_ble_eq_true rfl, Nat.le_of_ble_eq_true rfl⟩ dX7_endorse_48 ?_
      cases h
      exact x_iret C hr dX7_endorse_51
  · rw [if_neg q] at h
    refine x_iload (pc := 14) C dX7_endorse_14 rfl ?_
    cases h
    exact x_iret C hr dX7_endorse_16
def DX7_refund (l0 : Nat) (l1 : Int32) (σ : Sg) : Option (Int32 × Sg) :=
  chk (ckO σ 5 l0) <|
  bnd (DX7_isTicket l0 l1 σ) fun v1 σ2 =>
  if v1 = 0 then
    some ((-1 : Int32), σ2)
  else
    chk (ckO σ2 5 l0) <|
    chk (ckV (gR σ2 l0 5)) <|
    chk (ckO σ2 1 (gR σ2 l0 5)) <|
    chk (ckV (gR σ2 (gR σ2 l0 5) 1)) <|
    chk (ckI σ2 (gR σ2 (gR σ2 l0 5) 1) l1) <|
    chk (ckO σ2 5 l0) <|
    chk (ckV (gR σ2 l0 2)) <|
    chk (ckO σ2 0 (gR σ2 l0 2)) <|
    bnd (DX1_couponsOf (gR σ2 l0 2) l1 σ2) fun v3 σ4 =>
    if (aI σ2 (gR σ2 (gR σ2 l0 5) 1) l1.toNatClampNeg) < v3 then
      chk (ckO σ4 5 l0) <|
      chk (ckV (gR σ4 l0 5)) <|
      chk (ckO σ4 1 (gR σ4 l0 5)) <|
      chk (ckV (gR σ4 (gR σ4 l0 5) 2)) <|
      chk (ckZ σ4 (gR σ4 (gR σ4 l0 5) 2) l1) <|
      if (aI σ4 (gR σ4 (gR σ4 l0 5) 2) l1.toNatClampNeg) = 0 then
        chk (ckO σ4 5 l0) <|
        chk (ckV (gR σ4 l0 5)) <|
        chk (ckO σ4 1 (gR σ4 l0 5)) <|
        bnd (DX2_refundTicket (gR σ4 l0 5) l1 σ4) fun _ σ5 =>
        chk (ckO σ5 5 l0) <|
        chk (ckV (gR σ5 l0 2)) <|
        chk (ckO σ5 0 (gR σ5 l0 2)) <|
        bnd (DX1_fareOf (gR σ5 l0 2) l1 σ5) fun v6 σ7 =>
        chk (ckO σ7 5 l0) <|
        bnd (DX7_flownTogether l0 l1 σ7) fun v8 σ9 =>
        some ((v6 - v8), σ9)
      else
        some ((-3 : Int32), σ4)
    else
      some ((-2 : Int32), σ4)
theorem mX7_refund (E : Ev) (l : Launch) {l0 : Nat} {l1 : Int32} {σ : Sg} {r : Int32} {σ' : Sg} (h : DX7_refund l0 l1 σ = some (r, σ')) : Mt E l yX7_refund cX7_refund 2 (some .int) 3 0 0 [.ref (ad E l0), .int l1] σ (some (.int r)) σ' := by
  refine Mt.ofX (by decide) (Nat.le_of_ble_eq_true rfl) (L0 := [some (.ref (ad E l0)), some (.int l1)]) (xEntN_ok [.ref (ad E l0), .int l1] 2) (fun p e s m args below meth c C hr hn => ?_)
  unfold DX7_refund at h
  refine x_aload_n (pc := 0) C dX7_refund_0 rfl rfl ?_
  refine x_iload_n (pc := 1) C dX7_refund_1 rfl rfl ?_
  obtain ⟨k, h⟩ := chk_s h
  have k2 := k
  obtain ⟨v1, σ2, k, h⟩ := bnd_s h
  refine x_callV1 (pc := 2) C (mX7_isTicket E l k) cl5 k2 cX7_103 nX7_isTicket sX7_isTicket rfl rfl (Nat.le_of_ble_eq_true rfl) ⟨Nat.le_of_ble_eq_true rfl, Nat.le_of_ble_eq_true rfl, Nat.le_of_ble_eq_true rfl, Nat.le_of_ble_eq_true rfl⟩ dX7_refund_2 ?_
  refine x_if_ne (pc := 5) (tgt := 10) C dX7_refund_5 (by decide) (fun q => ?_) (fun q => ?_)
  · rw [if_pos q] at h
    refine x_iconst (v := -1) (pc := 8) C dX7_refund_8 (by decide) ?_
    cases h
    exact x_iret C hr dX7_refund_9
  · rw [if_neg q] at h
    refine x_aload_n (pc := 10) C dX7_refund_10 rfl rfl ?_
    obtain ⟨k, h⟩ := chk_s h
    have k2 := k
    obtain ⟨k, h⟩ := chk_s h
    refine x_getR (pc := 11) C fX7_39 rfl k2 k dX7_refund_11 ?_
    obtain ⟨k, h⟩ := chk_s h
    have k2 := k
    obtain ⟨k, h⟩ := chk_s h
    refine x_getR (pc := 14) C fX7_175 rfl k2 k dX7_refund_14 ?_
    refine x_iload_n (pc := 17) C dX7_refund_17 rfl rfl ?_
    obtain ⟨k, h⟩ := chk_s h
    refine x_iald (pc := 18) C k dX7_refund_18 ?_
    refine x_aload_n (pc := 19) C dX7_refund_19 rfl rfl ?_
    obtain ⟨k, h⟩ := chk_s h
    have k2 := k
    obtain ⟨k, h⟩ := chk_s h
    refine x_getR (pc := 20) C fX7_20 rfl k2 k dX7_refund_20 ?_
    refine x_iload_n (pc := 23) C dX7_refund_23 rfl rfl ?_
    obtain ⟨k, h⟩ := chk_s h
    have k2 := k
    obtain ⟨v3, σ4, k, h⟩ := bnd_s h
    refine x_callV1 (pc := 24) C (mX1_couponsOf E l k) cl0 k2 cX7_107 nX1_couponsOf sX1_couponsOf rfl rfl (Nat.le_of_ble_eq_true rfl) ⟨Nat.le_of_ble_eq_true rfl, Nat.le_of_ble_eq_true rfl, Nat.le_of_ble_eq_true rfl, Nat.le_of_ble_eq_true rfl⟩ dX7_refund_24 ?_
    refine x_icmp_lt (pc := 27) (tgt := 33) C dX7_refund_27 (by decide) (fun q => ?_) (fun q => ?_)
    · rw [if_pos q] at h
      refine x_aload_n (pc := 33) C dX7_refund_33 rfl rfl ?_
      obtain ⟨k, h⟩ := chk_s h
      have k2 := k
      obtain ⟨k, h⟩ := chk_s h
      refine x_getR (pc := 34) C fX7_39 rfl k2 k dX7_refund_34 ?_
      obtain ⟨k, h⟩ := chk_s h
      have k2 := k
      obtain ⟨k, h⟩ := chk_s h
      refine x_getR (pc := 37) C fX7_181 rfl k2 k dX7_refund_37 ?_
      refine x_iload_n (pc := 40) C dX7_refund_40 rfl rfl ?_
      obtain ⟨k, h⟩ := chk_s h
      refine x_zald (pc := 41) C k dX7_refund_41 ?_
      refine x_if_eq (pc := 42) (tgt := 48) C dX7_refund_42 (by decide) (fun q => ?_) (fun q => ?_)
      · rw [if_pos q] at h
        refine x_aload_n (pc := 48) C dX7_refund_48 rfl rfl ?_
        obtain ⟨k, h⟩ := chk_s h
        have k2 := k
        obtain ⟨k, h⟩ := chk_s h
        refine x_getR (pc := 49) C fX7_39 rfl k2 k dX7_refund_49 ?_
        refine x_iload_n (pc := 52) C dX7_refund_52 rfl rfl ?_
        obtain ⟨k, h⟩ := chk_s h
        have k2 := k
        obtain ⟨u0, σ5, k, h⟩ := bnd_s h
        refine x_callV0 (pc := 53) C (mX2_refundTicket E l k) cl1 k2 cX7_271 nX2_refundTicket sX2_refundTicket rfl rfl (Nat.le_of_ble_eq_true rfl) ⟨Nat.le_of_ble_eq_true rfl, Nat.le_of_ble_eq_true rfl, Nat.le_of_ble_eq_true rfl, Nat.le_of_ble_eq_true rfl⟩ dX7_refund_53 ?_
        refine x_aload_n (pc := 56) C dX7_refund_56 rfl rfl ?_
        obtain ⟨k, h⟩ := chk_s h
        have k2 := k
        obtain ⟨k, h⟩ := chk_s h
        refine x_getR (pc := 57) C fX7_20 rfl k2 k dX7_refund_57 ?_
        refine x_iload_n (pc := 60) C dX7_refund_60 rfl rfl ?_
        obtain ⟨k, h⟩ := chk_s h
        have k2 := k
        obtain ⟨v6, σ7, k, h⟩ := bnd_s h
        refine x_callV1 (pc := 61) C (mX1_fareOf E l k) cl0 k2 cX7_169 nX1_fareOf sX1_fareOf rfl rfl (Nat.le_of_ble_eq_true rfl) ⟨Nat.le_of_ble_eq_true rfl, Nat.le_of_ble_eq_true rfl, Nat.le_of_ble_eq_true rfl, Nat.le_of_ble_eq_true rfl⟩ dX7_refund_61 ?_
        refine x_aload_n (pc := 64) C dX7_refund_64 rfl rfl ?_
        refine x_iload_n (pc := 65) C dX7_refund_65 rfl rfl ?_
        obtain ⟨k, h⟩ := chk_s h
        have k2 := k
        obtain ⟨v8, σ9, k, h⟩ := bnd_s h
        refine x_callV1 (pc := 66) C (mX7_flownTogether E l k) cl5 k2 cX7_188 nX7_flownTogether sX7_flownTogether rfl rfl (Nat.le_of_ble_eq_true rfl) ⟨Nat.le_of_ble_eq_true rfl, Nat.le_of_ble_eq_true rfl, Nat.le_of_ble_eq_true rfl, Nat.le_of_ble_eq_true rfl⟩ dX7_refund_66 ?_
        refine x_isub (pc := 69) C dX7_refund_69 ?_
        cases h
        exact x_iret C hr dX7_refund_70
      · rw [if_neg q] at h
        refine x_bipush (v := -3) (pc := 45) C dX7_refund_45 (by decide) ?_
        cases h
        exact x_iret C hr dX7_refund_47
    · rw [if_neg q] at h
      refine x_bipush (v := -2) (pc := 30) C dX7_refund_30 (by decide) ?_
      cases h
      exact x_iret C hr dX7_refund_32
def DX7_clear (l0 : Nat) (σ : Sg) : Option (Int32 × Sg) :=
  chk (ckO σ 5 l0) <|
  chk (ckV (gR σ l0 5)) <|
  chk (ckO σ 1 (gR σ l0 5)) <|
  bnd (DX2_billsTogether (gR σ l0 5) σ) fun v1 σ2 =>
  if v1 = 0 then
    some ((-2 : Int32), σ2)
  else
    chk (ckO σ2 5 l0) <|
    chk (ckV (gR σ2 l0 7)) <|
    chk (ckO σ2 5 l0) <|
    chk (ckV (gR σ2 l0 5)) <|
    chk (ckO σ2 5 l0) <|
    chk (ckV (gR σ2 l0 2)) <|
    chk (ckO σ2 0 (gR σ2 l0 2)) <|
    chk (ckO σ2 3 (gR σ2 l0 7)) <|
    bnd (DX4_settle (gR σ2 l0 7) (gR σ2 l0 5) (gI σ2 (gR σ2 l0 2) 2) σ2) fun _ σ3 =>
    chk (ckO σ3 5 l0) <|
    chk (ckV (gR σ3 l0 5)) <|
    chk (ckO σ3 1 (gR σ3 l0 5)) <|
    bnd (DX2_clearBills (gR σ3 l0 5) σ3) fun _ σ4 =>
    chk (ckO σ4 5 l0) <|
    chk (ckV (gR σ4 l0 7)) <|
    chk (ckO σ4 3 (gR σ4 l0 7)) <|
    bnd (DX4_together (gR σ4 l0 7) σ4) fun v5 σ6 =>
    some (v5, σ6)
theorem mX7_clear (E : Ev) (l : Launch) {l0 : Nat} {σ : Sg} {r : Int32} {σ' : Sg} (h : DX7_clear l0 σ = some (r, σ')) : Mt E l yX7_clear cX7_clear 1 (some .int) 3 0 0 [.ref (ad E l0)] σ (some (.int r)) σ' := by
  refine Mt.ofX (by decide) (Nat.le_of_ble_eq_true rfl) (L0 := [some (.ref (ad E l0))]) (xEntN_ok [.ref (ad E l0)] 1) (fun p e s m args below meth c C hr hn => ?_)
  unfold DX7_clear at h
  refine x_aload_n (pc := 0) C dX7_clear_0 rfl rfl ?_
  obtain ⟨k, h⟩ := chk_s h
  have k2 := k
  obtain ⟨k, h⟩ := chk_s h
  refine x_getR (pc := 1) C fX7_39 rfl k2 k dX7_clear_1 ?_
  obtain ⟨k, h⟩ := chk_s h
  have k2 := k
  obtain ⟨v1, σ2, k, h⟩ := bnd_s h
  refine x_callV1 (pc := 4) C (mX2_billsTogether E l k) cl1 k2 cX7_274 nX2_billsTogether sX2_billsTogether rfl rfl (Nat.le_of_ble_eq_true rfl) ⟨Nat.le_of_ble_eq_true rfl, Nat.le_of_ble_eq_true rfl, Nat.le_of_ble_eq_true rfl, Nat.le_of_ble_eq_true rfl⟩ dX7_clear_4 ?_
  refine x_if_ne (pc := 7) (tgt := 13) C dX7_clear_7 (by decide) (fun q => ?_) (fun q => ?_)
  · rw [if_pos q] at h
    refine x_bipush (v := -2) (pc := 10) C dX7_clear_10 (by decide) ?_
    cases h
    exact x_iret C hr dX7_clear_12
  · rw [if_neg q] at h
    refine x_aload_n (pc := 13) C dX7_clear_13 rfl rfl ?_
    obtain ⟨k, h⟩ := chk_s h
    have k2 := k
    obtain ⟨k, h⟩ := chk_s h
    refine x_getR (pc := 14) C fX7_55 rfl k2 k dX7_clear_14 ?_
    refine x_aload_n (pc := 17) C dX7_clear_17 rfl rfl ?_
    obtain ⟨k, h⟩ := chk_s h
    have k2 := k
    obtain ⟨k, h⟩ := chk_s h
    refine x_getR (pc := 18) C fX7_39 rfl k2 k dX7_clear_18 ?_
    refine x_aload_n (pc := 21) C dX7_clear_21 rfl rfl ?_
    obtain ⟨k, h⟩ := chk_s h
    have k2 := k
    obtain ⟨k, h⟩ := chk_s h
    refine x_getR (pc := 22) C fX7_20 rfl k2 k dX7_clear_22 ?_
    obtain ⟨k, h⟩ := chk_s h
    refine x_getI (pc := 25) C fX7_94 rfl k dX7_clear_25 ?_
    obtain ⟨k, h⟩ := chk_s h
    have k2 := k
    obtain ⟨u0, σ3, k, h⟩ := bnd_s h
    refine x_callV0 (pc := 28) C (mX4_settle E l k) cl3 k2 cX7_278 nX4_settle sX4_settle rfl rfl (Nat.le_of_ble_eq_true rfl) ⟨Nat.le_of_ble_eq_true rfl, Nat.le_of_ble_eq_true rfl, Nat.le_of_ble_eq_true rfl, Nat.le_of_ble_eq_true rfl⟩ dX7_clear_28 ?_
    refine x_aload_n (pc := 31) C dX7_clear_31 rfl rfl ?_
    obtain ⟨k, h⟩ := chk_s h
    have k2 := k
    obtain ⟨k, h⟩ := chk_s h
    refine x_getR (pc := 32) C fX7_39 rfl k2 k dX7_clear_32 ?_
    obtain ⟨k, h⟩ := chk_s h
    have k2 := k
    obtain ⟨u0, σ4, k, h⟩ := bnd_s h
    refine x_callV0 (pc := 35) C (mX2_clearBills E l k) cl1 k2 cX7_282 nX2_clearBills sX2_clearBills rfl rfl (Nat.le_of_ble_eq_true rfl) ⟨Nat.le_of_ble_eq_true rfl, Nat.le_of_ble_eq_true rfl, Nat.le_of_ble_eq_true rfl, Nat.le_of_ble_eq_true rfl⟩ dX7_clear_35 ?_
    refine x_aload_n (pc := 38) C dX7_clear_38 rfl rfl ?_
    obtain ⟨k, h⟩ := chk_s h
    have k2 := k
    obtain ⟨k, h⟩ := chk_s h
    refine x_getR (pc := 39) C fX7_55 rfl k2 k dX7_clear_39 ?_
    obtain ⟨k, h⟩ := chk_s h
    have k2 := k
    obtain ⟨v5, σ6, k, h⟩ := bnd_s h
    refine x_callV1 (pc := 42) C (mX4_together E l k) cl3 k2 cX7_285 nX4_together sX4_together rfl rfl (Nat.le_of_ble_eq_true rfl) ⟨Nat.le_of_ble_eq_true rfl, Nat.le_of_ble_eq_true rfl, Nat.le_of_ble_eq_true rfl, Nat.le_of_ble_eq_true rfl⟩ dX7_clear_42 ?_
    cases h
    exact x_iret C hr dX7_clear_45
def DX7_undo_21 (s0 : Int32) (σ : Sg) : Option (Int32 × Sg) :=
  some (s0, σ)
theorem tX7_undo_21 {r : Int32} {σ' : Sg} (C : Cx E p s m args meth c RX7 cX7_undo 1) (hr : meth.sig.returnType = (some .int)) {s0 : Int32} {σ : Sg} (h : DX7_undo_21 s0 σ = some (r, σ')) : Y E p l e (rmA 4 0 0) s m args below meth c (some (.int r)) σ' 0 0 1 0 0 σ 21 [none] [.int s0] := by
  unfold DX7_undo_21 at h
  cases h
  exact x_iret C hr dX7_undo_21
def DX7_undo (l0 : Nat) (σ : Sg) : Option (Int32 × Sg) :=
  chk (ckO σ 5 l0) <|
  chk (ckV (gR σ l0 5)) <|
  chk (ckO σ 1 (gR σ l0 5)) <|
  bnd (DX2_takeBackLatest (gR σ l0 5) σ) fun v1 σ2 =>
  if v1 = 0 then
    DX7_undo_21 (-1 : Int32) σ2
  else
    chk (ckO σ2 5 l0) <|
    chk (ckV (gR σ2 l0 5)) <|
    chk (ckO σ2 1 (gR σ2 l0 5)) <|
    DX7_undo_21 (gI σ2 (gR σ2 l0 5) 10) σ2
theorem mX7_undo (E : Ev) (l : Launch) {l0 : Nat} {σ : Sg} {r : Int32} {σ' : Sg} (h : DX7_undo l0 σ = some (r, σ')) : Mt E l yX7_undo cX7_undo 1 (some .int) 4 0 0 [.ref (ad E l0)] σ (some (.int r)) σ' := by
  refine Mt.ofX (by decide) (Nat.le_of_ble_eq_true rfl) (L0 := [some (.ref (ad E l0))]) (xEntN_ok [.ref (ad E l0)] 1) (fun p e s m args below meth c C hr hn => ?_)
  unfold DX7_undo at h
  refine x_aload_n (pc := 0) C dX7_undo_0 rfl rfl ?_
  obtain ⟨k, h⟩ := chk_s h
  have k2 := k
  obtain ⟨k, h⟩ := chk_s h
  refine x_getR (pc := 1) C fX7_39 rfl k2 k dX7_undo_1 ?_
  obtain ⟨k, h⟩ := chk_s h
  have k2 := k
  obtain ⟨v1, σ2, k, h⟩ := bnd_s h
  refine x_callV1 (pc := 4) C (mX2_takeBackLatest E l k) cl1 k2 cX7_288 nX2_takeBackLatest sX2_takeBackLatest rfl rfl (Nat.le_of_ble_eq_true rfl) ⟨Nat.le_of_ble_eq_true rfl, Nat.le_of_ble_eq_true rfl, Nat.le_of_ble_eq_true rfl, Nat.le_of_ble_eq_true rfl⟩ dX7_undo_4 ?_
  refine x_if_eq (pc := 7) (tgt := 20) C dX7_undo_7 (by decide) (fun q => ?_) (fun q => ?_)
  · rw [if_pos q] at h
    refine x_iconst (v := -1) (pc := 20) C dX7_undo_20 (by decide) ?_
    exact x_sub (tX7_undo_21 C hr h) (xLe_n xLe_0)
  · rw [if_neg q] at h
    refine x_aload_n (pc := 10) C dX7_undo_10 rfl rfl ?_
    obtain ⟨k, h⟩ := chk_s h
    have k2 := k
    obtain ⟨k, h⟩ := chk_s h
    refine x_getR (pc := 11) C fX7_39 rfl k2 k dX7_undo_11 ?_
    obtain ⟨k, h⟩ := chk_s h
    refine x_getI (pc := 14) C fX7_291 rfl k dX7_undo_14 ?_
    refine x_goto (tgt := 21) (pc := 17) C dX7_undo_17 (by decide) ?_
    exact x_sub (tX7_undo_21 C hr h) (xLe_n xLe_0)
def DX7_bill_21 (σ : Sg) : Option (Int32 × Sg) :=
  some ((-1 : Int32), σ)
theorem tX7_bill_21 {r : Int32} {σ' : Sg} (C : Cx E p s m args meth c RX7 cX7_bill 3) (hr : meth.sig.returnType = (some .int)) {σ : Sg} (h : DX7_bill_21  σ = some (r, σ')) : Y E p l e (rmA 2 0 0) s m args below meth c (some (.int r)) σ' 0 0 3 0 0 σ 21 [none, none, none] [] := by
  unfold DX7_bill_21 at h
  refine x_iconst (v := -1) (pc := 21) C dX7_bill_21 (by decide) ?_
  cases h
  exact x_iret C hr dX7_bill_22
def DX7_bill (l0 : Nat) (l1 : Int32) (l2 : Int32) (σ : Sg) : Option (Int32 × Sg) :=
  chk (ckO σ 5 l0) <|
  bnd (DX7_isCarrier l0 l1 σ) fun v1 σ2 =>
  if v1 = 0 then
    DX7_bill_21 σ2
  else
    chk (ckO σ2 5 l0) <|
    bnd (DX7_isCarrier l0 l2 σ2) fun v3 σ4 =>
    if v3 = 0 then
      DX7_bill_21 σ4
    else
      if l1 = l2 then
        DX7_bill_21 σ4
      else
        chk (ckO σ4 5 l0) <|
        chk (ckV (gR σ4 l0 5)) <|
        chk (ckO σ4 1 (gR σ4 l0 5)) <|
        chk (ckV (gR σ4 (gR σ4 l0 5) 5)) <|
        chk (ckG σ4 (gR σ4 (gR σ4 l0 5) 5) l1) <|
        chk (ckR σ4 (gR σ4 (gR σ4 l0 5) 5) l1.toNatClampNeg l2) <|
        some ((aG σ4 (gR σ4 (gR σ4 l0 5) 5) l1.toNatClampNeg l2.toNatClampNeg), σ4)
theorem mX7_bill (E : Ev) (l : Launch) {l0 : Nat} {l1 : Int32} {l2 : Int32} {σ : Sg} {r : Int32} {σ' : Sg} (h : DX7_bill l0 l1 l2 σ = some (r, σ')) : Mt E l yX7_bill cX7_bill 3 (some .int) 2 0 0 [.ref (ad E l0), .int l1, .int l2] σ (some (.int r)) σ' := by
  refine Mt.ofX (by decide) (Nat.le_of_ble_eq_true rfl) (L0 := [some (.ref (ad E l0)), some (.int l1), some (.int l2)]) (xEntN_ok [.ref (ad E l0), .int l1, .int l2] 3) (fun p e s m args below meth c C hr hn => ?_)
  unfold DX7_bill at h
  refine x_aload_n (pc := 0) C dX7_bill_0 rfl rfl ?_
  refine x_iload_n (pc := 1) C dX7_bill_1 rfl rfl ?_
  obtain ⟨k, h⟩ := chk_s h
  have k2 := k
  obtain ⟨v1, σ2, k, h⟩ := bnd_s h
  refine x_callV1 (pc := 2) C (mX7_isCarrier E l k) cl5 k2 cX7_130 nX7_isCarrier sX7_isCarrier rfl rfl (Nat.le_of_ble_eq_true rfl) ⟨Nat.le_of_ble_eq_true rfl, Nat.le_of_ble_eq_true rfl, Nat.le_of_ble_eq_true rfl, Nat.le_of_ble_eq_true rfl⟩ dX7_bill_2 ?_
  refine x_if_eq (pc := 5) (tgt := 21) C dX7_bill_5 (by decide) (fun q => ?_) (fun q => ?_)
  · rw [if_pos q] at h
    exact x_sub (tX7_bill_21 C hr h) (xLe_n (xLe_n (xLe_n xLe_0)))
  · rw [if_neg q] at h
    refine x_aload_n (pc := 8) C dX7_bill_8 rfl rfl ?_
    refine x_iload_n (pc := 9) C dX7_bill_9 rfl rfl ?_
    obtain ⟨k, h⟩ := chk_s h
    have k2 := k
    obtain ⟨v3, σ4, k, h⟩ := bnd_s h
    refine x_callV1 (pc := 10) C (mX7_isCarrier E l k) cl5 k2 cX7_130 nX7_isCarrier sX7_isCarrier rfl rfl (Nat.le_of_ble_eq_true rfl) ⟨Nat.le_of_ble_eq_true rfl, Nat.le_of_ble_eq_true rfl, Nat.le_of_ble_eq_true rfl, Nat.le_of_ble_eq_true rfl⟩ dX7_bill_10 ?_
    refine x_if_eq (pc := 13) (tgt := 21) C dX7_bill_13 (by decide) (fun q => ?_) (fun q => ?_)
    · rw [if_pos q] at h
      exact x_sub (tX7_bill_21 C hr h) (xLe_n (xLe_n (xLe_n xLe_0)))
    · rw [if_neg q] at h
      refine x_iload_n (pc := 16) C dX7_bill_16 rfl rfl ?_
      refine x_iload_n (pc := 17) C dX7_bill_17 rfl rfl ?_
      refine x_icmp_ne (pc := 18) (tgt := 23) C dX7_bill_18 (by decide) (fun q => ?_) (fun q => ?_)
      · rw [if_pos q] at h
        exact x_sub (tX7_bill_21 C hr h) (xLe_n (xLe_n (xLe_n xLe_0)))
      · rw [if_neg q] at h
        refine x_aload_n (pc := 23) C dX7_bill_23 rfl rfl ?_
        obtain ⟨k, h⟩ := chk_s h
        have k2 := k
        obtain ⟨k, h⟩ := chk_s h
        refine x_getR (pc := 24) C fX7_39 rfl k2 k dX7_bill_24 ?_
        obtain ⟨k, h⟩ := chk_s h
        have k2 := k
        obtain ⟨k, h⟩ := chk_s h
        refine x_getR (pc := 27) C fX7_294 rfl k2 k dX7_bill_27 ?_
        refine x_iload_n (pc := 30) C dX7_bill_30 rfl rfl ?_
        obtain ⟨k, h⟩ := chk_s h
        refine x_gald (pc := 31) C k dX7_bill_31 ?_
        refine x_iload_n (pc := 32) C dX7_bill_32 rfl rfl ?_
        obtain ⟨k, h⟩ := chk_s h
        refine x_rald (pc := 33) C k dX7_bill_33 ?_
        cases h
        exact x_iret C hr dX7_bill_34
def DX7_net_22 (s0 : Int32) (σ : Sg) : Option (Int32 × Sg) :=
  some (s0, σ)
theorem tX7_net_22 {r : Int32} {σ' : Sg} (C : Cx E p s m args meth c RX7 cX7_net 2) (hr : meth.sig.returnType = (some .int)) {s0 : Int32} {σ : Sg} (h : DX7_net_22 s0 σ = some (r, σ')) : Y E p l e (rmA 2 0 0) s m args below meth c (some (.int r)) σ' 0 0 2 0 0 σ 22 [none, none] [.int s0] := by
  unfold DX7_net_22 at h
  cases h
  exact x_iret C hr dX7_net_22
def DX7_net (l0 : Nat) (l1 : Int32) (σ : Sg) : Option (Int32 × Sg) :=
  chk (ckO σ 5 l0) <|
  bnd (DX7_isCarrier l0 l1 σ) fun v1 σ2 =>
  if v1 = 0 then
    DX7_net_22 (-1000000000 : Int32) σ2
  else
    chk (ckO σ2 5 l0) <|
    chk (ckV (gR σ2 l0 5)) <|
    chk (ckO σ2 1 (gR σ2 l0 5)) <|
    bnd (DX2_netOf (gR σ2 l0 5) l1 σ2) fun v3 σ4 =>
    DX7_net_22 v3 σ4
theorem mX7_net (E : Ev) (l : Launch) {l0 : Nat} {l1 : Int32} {σ : Sg} {r : Int32} {σ' : Sg} (h : DX7_net l0 l1 σ = some (r, σ')) : Mt E l yX7_net cX7_net 2 (some .int) 2 0 0 [.ref (ad E l0), .int l1] σ (some (.int r)) σ' := by
  refine Mt.ofX (by decide) (Nat.le_of_ble_eq_true rfl) (L0 := [some (.ref (ad E l0)), some (.int l1)]) (xEntN_ok [.ref (ad E l0), .int l1] 2) (fun p e s m args below meth c C hr hn => ?_)
  unfold DX7_net at h
  refine x_aload_n (pc := 0) C dX7_net_0 rfl rfl ?_
  refine x_iload_n (pc := 1) C dX7_net_1 rfl rfl ?_
  obtain ⟨k, h⟩ := chk_s h
  have k2 := k
  obtain ⟨v1, σ2, k, h⟩ := bnd_s h
  refine x_callV1 (pc := 2) C (mX7_isCarrier E l k) cl5 k2 cX7_130 nX7_isCarrier sX7_isCarrier rfl rfl (Nat.le_of_ble_eq_true rfl) ⟨Nat.le_of_ble_eq_true rfl, Nat.le_of_ble_eq_true rfl, Nat.le_of_ble_eq_true rfl, Nat.le_of_ble_eq_true rfl⟩ dX7_net_2 ?_
  refine x_if_eq (pc := 5) (tgt := 19) C dX7_net_5 (by decide) (fun q => ?_) (fun q => ?_)
  · rw [if_pos q] at h
    refine x_ldc_w (pc := 19) C kX7_300 dX7_net_19 ?_
    exact x_sub (tX7_net_22 C hr h) (xLe_n (xLe_n xLe_0))
  · rw [if_neg q] at h
    refine x_aload_n (pc := 8) C dX7_net_8 rfl rfl ?_
    obtain ⟨k, h⟩ := chk_s h
    have k2 := k
    obtain ⟨k, h⟩ := chk_s h
    refine x_getR (pc := 9) C fX7_39 rfl k2 k dX7_net_9 ?_
    refine x_iload_n (pc := 12) C dX7_net_12 rfl rfl ?_
    obtain ⟨k, h⟩ := chk_s h
    have k2 := k
    obtain ⟨v3, σ4, k, h⟩ := bnd_s h
    refine x_callV1 (pc := 13) C (mX2_netOf E l k) cl1 k2 cX7_297 nX2_netOf sX2_netOf rfl rfl (Nat.le_of_ble_eq_true rfl) ⟨Nat.le_of_ble_eq_true rfl, Nat.le_of_ble_eq_true rfl, Nat.le_of_ble_eq_true rfl, Nat.le_of_ble_eq_true rfl⟩ dX7_net_13 ?_
    refine x_goto (tgt := 22) (pc := 16) C dX7_net_16 (by decide) ?_
    exact x_sub (tX7_net_22 C hr h) (xLe_n (xLe_n xLe_0))
def DX7_cleared_23 (s0 : Int32) (σ : Sg) : Option (Int32 × Sg) :=
  some (s0, σ)
theorem tX7_cleared_23 {r : Int32} {σ' : Sg} (C : Cx E p s m args meth c RX7 cX7_cleared 2) (hr : meth.sig.returnType = (some .int)) {s0 : Int32} {σ : Sg} (h : DX7_cleared_23 s0 σ = some (r, σ')) : Y E p l e (rmA 2 0 0) s m args below meth c (some (.int r)) σ' 0 0 2 0 0 σ 23 [none, none] [.int s0] := by
  unfold DX7_cleared_23 at h
  cases h
  exact x_iret C hr dX7_cleared_23
def DX7_cleared (l0 : Nat) (l1 : Int32) (σ : Sg) : Option (Int32 × Sg) :=
  chk (ckO σ 5 l0) <|
  bnd (DX7_isCarrier l0 l1 σ) fun v1 σ2 =>
  if v1 = 0 then
    DX7_cleared_23 (-1000000000 : Int32) σ2
  else
    chk (ckO σ2 5 l0) <|
    chk (ckV (gR σ2 l0 5)) <|
    chk (ckO σ2 1 (gR σ2 l0 5)) <|
    chk (ckV (gR σ2 (gR σ2 l0 5) 6)) <|
    chk (ckI σ2 (gR σ2 (gR σ2 l0 5) 6) l1) <|
    DX7_cleared_23 (aI σ2 (gR σ2 (gR σ2 l0 5) 6) l1.toNatClampNeg) σ2
theorem mX7_cleared (E : Ev) (l : Launch) {l0 : Nat} {l1 : Int32} {σ : Sg} {r : Int32} {σ' : Sg} (h : DX7_cleared l0 l1 σ = some (r, σ')) : Mt E l yX7_cleared cX7_cleared 2 (some .int) 2 0 0 [.ref (ad E l0), .int l1] σ (some (.int r)) σ' := by
  refine Mt.ofX (by decide) (Nat.le_of_ble_eq_true rfl) (L0 := [some (.ref (ad E l0)), some (.int l1)]) (xEntN_ok [.ref (ad E l0), .int l1] 2) (fun p e s m args below meth c C hr hn => ?_)
  unfold DX7_cleared at h
  refine x_aload_n (pc := 0) C dX7_cleared_0 rfl rfl ?_
  refine x_iload_n (pc := 1) C dX7_cleared_1 rfl rfl ?_
  obtain ⟨k, h⟩ := chk_s h
  have k2 := k
  obtain ⟨v1, σ2, k, h⟩ := bnd_s h
  refine x_callV1 (pc := 2) C (mX7_isCarrier E l k) cl5 k2 cX7_130 nX7_isCarrier sX7_isCarrier rfl rfl (Nat.le_of_ble_eq_true rfl) ⟨Nat.le_of_ble_eq_true rfl, Nat.le_of_ble_eq_true rfl, Nat.le_of_ble_eq_true rfl, Nat.le_of_ble_eq_true rfl⟩ dX7_cleared_2 ?_
  refine x_if_eq (pc := 5) (tgt := 20) C dX7_cleared_5 (by decide) (fun q => ?_) (fun q => ?_)
  · rw [if_pos q] at h
    refine x_ldc_w (pc := 20) C kX7_300 dX7_cleared_20 ?_
    exact x_sub (tX7_cleared_23 C hr h) (xLe_n (xLe_n xLe_0))
  · rw [if_neg q] at h
    refine x_aload_n (pc := 8) C dX7_cleared_8 rfl rfl ?_
    obtain ⟨k, h⟩ := chk_s h
    have k2 := k
    obtain ⟨k, h⟩ := chk_s h
    refine x_getR (pc := 9) C fX7_39 rfl k2 k dX7_cleared_9 ?_
    obtain ⟨k, h⟩ := chk_s h
    have k2 := k
    obtain ⟨k, h⟩ := chk_s h
    refine x_getR (pc := 12) C fX7_301 rfl k2 k dX7_cleared_12 ?_
    refine x_iload_n (pc := 15) C dX7_cleared_15 rfl rfl ?_
    obtain ⟨k, h⟩ := chk_s h
    refine x_iald (pc := 16) C k dX7_cleared_16 ?_
    refine x_goto (tgt := 23) (pc := 17) C dX7_cleared_17 (by decide) ?_
    exact x_sub (tX7_cleared_23 C hr h) (xLe_n (xLe_n xLe_0))
def DX7_payments (l0 : Nat) (σ : Sg) : Option (Int32 × Sg) :=
  chk (ckO σ 5 l0) <|
  chk (ckV (gR σ l0 7)) <|
  chk (ckO σ 5 l0) <|
  chk (ckV (gR σ l0 5)) <|
  chk (ckO σ 5 l0) <|
  chk (ckV (gR σ l0 2)) <|
  chk (ckO σ 0 (gR σ l0 2)) <|
  chk (ckO σ 3 (gR σ l0 7)) <|
  bnd (DX4_settle (gR σ l0 7) (gR σ l0 5) (gI σ (gR σ l0 2) 2) σ) fun _ σ1 =>
  chk (ckO σ1 5 l0) <|
  chk (ckV (gR σ1 l0 7)) <|
  chk (ckO σ1 3 (gR σ1 l0 7)) <|
  some ((gI σ1 (gR σ1 l0 7) 2), σ1)
theorem mX7_payments (E : Ev) (l : Launch) {l0 : Nat} {σ : Sg} {r : Int32} {σ' : Sg} (h : DX7_payments l0 σ = some (r, σ')) : Mt E l yX7_payments cX7_payments 1 (some .int) 3 0 0 [.ref (ad E l0)] σ (some (.int r)) σ' := by
  refine Mt.ofX (by decide) (Nat.le_of_ble_eq_true rfl) (L0 := [some (.ref (ad E l0))]) (xEntN_ok [.ref (ad E l0)] 1) (fun p e s m args below meth c C hr hn => ?_)
  unfold DX7_payments at h
  refine x_aload_n (pc := 0) C dX7_payments_0 rfl rfl ?_
  obtain ⟨k, h⟩ := chk_s h
  have k2 := k
  obtain ⟨k, h⟩ := chk_s h
  refine x_getR (pc := 1) C fX7_55 rfl k2 k dX7_payments_1 ?_
  refine x_aload_n (pc := 4) C dX7_payments_4 rfl rfl ?_
  obtain ⟨k, h⟩ := chk_s h
  have k2 := k
  obtain ⟨k, h⟩ := chk_s h
  refine x_getR (pc := 5) C fX7_39 rfl k2 k dX7_payments_5 ?_
  refine x_aload_n (pc := 8) C dX7_payments_8 rfl rfl ?_
  obtain ⟨k, h⟩ := chk_s h
  have k2 := k
  obtain ⟨k, h⟩ := chk_s h
  refine x_getR (pc := 9) C fX7_20 rfl k2 k dX7_payments_9 ?_
  obtain ⟨k, h⟩ := chk_s h
  refine x_getI (pc := 12) C fX7_94 rfl k dX7_payments_12 ?_
  obtain ⟨k, h⟩ := chk_s h
  have k2 := k
  obtain ⟨u0, σ1, k, h⟩ := bnd_s h
  refine x_callV0 (pc := 15) C (mX4_settle E l k) cl3 k2 cX7_278 nX4_settle sX4_settle rfl rfl (Nat.le_of_ble_eq_true rfl) ⟨Nat.le_of_ble_eq_true rfl, Nat.le_of_ble_eq_true rfl, Nat.le_of_ble_eq_true rfl, Nat.le_of_ble_eq_true rfl⟩ dX7_payments_15 ?_
  refine x_aload_n (pc := 18) C dX7_payments_18 rfl rfl ?_
  obtain ⟨k, h⟩ := chk_s h
  have k2 := k
  obtain ⟨k, h⟩ := chk_s h
  refine x_getR (pc := 19) C fX7_55 rfl k2 k dX7_payments_19 ?_
  obtain ⟨k, h⟩ := chk_s h
  refine x_getI (pc := 22) C fX7_304 rfl k dX7_payments_22 ?_
  cases h
  exact x_iret C hr dX7_payments_25
def DX7_payment_13 (σ : Sg) : Option (Int32 × Sg) :=
  some ((-1 : Int32), σ)
theorem tX7_payment_13 {r : Int32} {σ' : Sg} (C : Cx E p s m args meth c RX7 cX7_payment 3) (hr : meth.sig.returnType = (some .int)) {σ : Sg} (h : DX7_payment_13  σ = some (r, σ')) : Y E p l e (rmA 3 0 0) s m args below meth c (some (.int r)) σ' 0 0 3 0 0 σ 13 [none, none, none] [] := by
  unfold DX7_payment_13 at h
  refine x_iconst (v := -1) (pc := 13) C dX7_payment_13 (by decide) ?_
  cases h
  exact x_iret C hr dX7_payment_14
def DX7_payment_60 (s0 : Int32) (σ : Sg) : Option (Int32 × Sg) :=
  some (s0, σ)
theorem tX7_payment_60 {r : Int32} {σ' : Sg} (C : Cx E p s m args meth c RX7 cX7_payment 3) (hr : meth.sig.returnType = (some .int)) {s0 : Int32} {σ : Sg} (h : DX7_payment_60 s0 σ = some (r, σ')) : Y E p l e (rmA 3 0 0) s m args below meth c (some (.int r)) σ' 0 0 3 0 0 σ 60 [none, none, none] [.int s0] := by
  unfold DX7_payment_60 at h
  cases h
  exact x_iret C hr dX7_payment_60
def DX7_payment (l0 : Nat) (l1 : Int32) (l2 : Int32) (σ : Sg) : Option (Int32 × Sg) :=
  if l1 < 0 then
    DX7_payment_13 σ
  else
    if l2 < 0 then
      DX7_payment_13 σ
    else
      if l2 ≤ (2 : Int32) then
        chk (ckO σ 5 l0) <|
        chk (ckV (gR σ l0 7)) <|
        chk (ckO σ 5 l0) <|
        chk (ckV (gR σ l0 5)) <|
        chk (ckO σ 5 l0) <|
        chk (ckV (gR σ l0 2)) <|
        chk (ckO σ 0 (gR σ l0 2)) <|
        chk (ckO σ 3 (gR σ l0 7)) <|
        bnd (DX4_settle (gR σ l0 7) (gR σ l0 5) (gI σ (gR σ l0 2) 2) σ) fun _ σ1 =>
        chk (ckO σ1 5 l0) <|
        chk (ckV (gR σ1 l0 7)) <|
        chk (ckO σ1 3 (gR σ1 l0 7)) <|
        if (gI σ1 (gR σ1 l0 7) 2) ≤ l1 then
          DX7_payment_60 (-2 : Int32) σ1
        else
          chk (ckO σ1 5 l0) <|
          chk (ckV (gR σ1 l0 7)) <|
          chk (ckO σ1 3 (gR σ1 l0 7)) <|
          chk (ckV (gR σ1 (gR σ1 l0 7) 1)) <|
          chk (ckG σ1 (gR σ1 (gR σ1 l0 7) 1) l1) <|
          chk (ckR σ1 (gR σ1 (gR σ1 l0 7) 1) l1.toNatClampNeg l2) <|
          DX7_payment_60 (aG σ1 (gR σ1 (gR σ1 l0 7) 1) l1.toNatClampNeg l2.toNatClampNeg) σ1
      else
        DX7_payment_13 σ
theorem mX7_payment (E : Ev) (l : Launch) {l0 : Nat} {l1 : Int32} {l2 : Int32} {σ : Sg} {r : Int32} {σ' : Sg} (h : DX7_payment l0 l1 l2 σ = some (r, σ')) : Mt E l yX7_payment cX7_payment 3 (some .int) 3 0 0 [.ref (ad E l0), .int l1, .int l2] σ (some (.int r)) σ' := by
  refine Mt.ofX (by decide) (Nat.le_of_ble_eq_true rfl) (L0 := [some (.ref (ad E l0)), some (.int l1), some (.int l2)]) (xEntN_ok [.ref (ad E l0), .int l1, .int l2] 3) (fun p e s m args below meth c C hr hn => ?_)
  unfold DX7_payment at h
  refine x_iload_n (pc := 0) C dX7_payment_0 rfl rfl ?_
  refine x_if_lt (pc := 1) (tgt := 13) C dX7_payment_1 (by decide) (fun q => ?_) (fun q => ?_)
  · rw [if_pos q] at h
    exact x_sub (tX7_payment_13 C hr h) (xLe_n (xLe_n (xLe_n xLe_0)))
  · rw [if_neg q] at h
    refine x_iload_n (pc := 4) C dX7_payment_4 rfl rfl ?_
    refine x_if_lt (pc := 5) (tgt := 13) C dX7_payment_5 (by decide) (fun q => ?_) (fun q => ?_)
    · rw [if_pos q] at h
      exact x_sub (tX7_payment_13 C hr h) (xLe_n (xLe_n (xLe_n xLe_0)))
    · rw [if_neg q] at h
      refine x_iload_n (pc := 8) C dX7_payment_8 rfl rfl ?_
      refine x_iconst (v := 2) (pc := 9) C dX7_payment_9 (by decide) ?_
      refine x_icmp_le (pc := 10) (tgt := 15) C dX7_payment_10 (by decide) (fun q => ?_) (fun q => ?_)
      · rw [if_pos q] at h
        refine x_aload_n (pc := 15) C dX7_payment_15 rfl rfl ?_
        obtain ⟨k, h⟩ := chk_s h
        have k2 := k
        obtain ⟨k, h⟩ := chk_s h
        refine x_getR (pc := 16) C fX7_55 rfl k2 k dX7_payment_16 ?_
        refine x_aload_n (pc := 19) C dX7_payment_19 rfl rfl ?_
        obtain ⟨k, h⟩ := chk_s h
        have k2 := k
        obtain ⟨k, h⟩ := chk_s h
        refine x_getR (pc := 20) C fX7_39 rfl k2 k dX7_payment_20 ?_
        refine x_aload_n (pc := 23) C dX7_payment_23 rfl rfl ?_
        obtain ⟨k, h⟩ := chk_s h
        have k2 := k
        obtain ⟨k, h⟩ := chk_s h
        refine x_getR (pc := 24) C fX7_20 rfl k2 k dX7_payment_24 ?_
        obtain ⟨k, h⟩ := chk_s h
        refine x_getI (pc := 27) C fX7_94 rfl k dX7_payment_27 ?_
        obtain ⟨k, h⟩ := chk_s h
        have k2 := k
        obtain ⟨u0, σ1, k, h⟩ := bnd_s h
        refine x_callV0 (pc := 30) C (mX4_settle E l k) cl3 k2 cX7_278 nX4_settle sX4_settle rfl rfl (Nat.le_of_ble_eq_true rfl) ⟨Nat.le_of_ble_eq_true rfl, Nat.le_of_ble_eq_true rfl, Nat.le_of_ble_eq_true rfl, Nat.le_of_ble_eq_true rfl⟩ dX7_payment_30 ?_
        refine x_iload_n (pc := 33) C dX7_payment_33 rfl rfl ?_
        refine x_aload_n (pc := 34) C dX7_payment_34 rfl rfl ?_
        obtain ⟨k, h⟩ := chk_s h
        have k2 := k
        obtain ⟨k, h⟩ := chk_s h
        refine x_getR (pc := 35) C fX7_55 rfl k2 k dX7_payment_35 ?_
        obtain ⟨k, h⟩ := chk_s h
        refine x_getI (pc := 38) C fX7_304 rfl k dX7_payment_38 ?_
        refine x_icmp_ge (pc := 41) (tgt := 58) C dX7_payment_41 (by decide) (fun q => ?_) (fun q => ?_)
        · rw [if_pos q] at h
          refine x_bipush (v := -2) (pc := 58) C dX7_payment_58 (by decide) ?_
          exact x_sub (tX7_payment_60 C hr h) (xLe_n (xLe_n (xLe_n xLe_0)))
        · rw [if_neg q] at h
          refine x_aload_n (pc := 44) C dX7_payment_44 rfl rfl ?_
          obtain ⟨k, h⟩ := chk_s h
          have k2 := k
          obtain ⟨k, h⟩ := chk_s h
          refine x_getR (pc := 45) C fX7_55 rfl k2 k dX7_payment_45 ?_
          obtain ⟨k, h⟩ := chk_s h
          have k2 := k
          obtain ⟨k, h⟩ := chk_s h
          refine x_getR (pc := 48) C fX7_305 rfl k2 k dX7_payment_48 ?_
          refine x_iload_n (pc := 51) C dX7_payment_51 rfl rfl ?_
          obtain ⟨k, h⟩ := chk_s h
          refine x_gald (pc := 52) C k dX7_payment_52 ?_
          refine x_iload_n (pc := 53) C dX7_payment_53 rfl rfl ?_
          obtain ⟨k, h⟩ := chk_s h
          refine x_rald (pc := 54) C k dX7_payment_54 ?_
          refine x_goto (tgt := 60) (pc := 55) C dX7_payment_55 (by decide) ?_
          exact x_sub (tX7_payment_60 C hr h) (xLe_n (xLe_n (xLe_n xLe_0)))
      · rw [if_neg q] at h
        exact x_sub (tX7_payment_13 C hr h) (xLe_n (xLe_n (xLe_n xLe_0)))
def DX7_wouldEndorse_26 (s0 : Int32) (σ : Sg) : Option (Int32 × Sg) :=
  some (s0, σ)
theorem tX7_wouldEndorse_26 {r : Int32} {σ' : Sg} (C : Cx E p s m args meth c RX7 cX7_wouldEndorse 5) (hr : meth.sig.returnType = (some .int)) {s0 : Int32} {σ : Sg} (h : DX7_wouldEndorse_26 s0 σ = some (r, σ')) : Y E p l e (rmA 6 0 0) s m args below meth c (some (.int r)) σ' 0 0 5 0 0 σ 26 [none, none, none, none, none] [.int s0] := by
  unfold DX7_wouldEndorse_26 at h
  cases h
  exact x_iret C hr dX7_wouldEndorse_26
def DX7_wouldEndorse (l0 : Nat) (l1 : Int32) (l2 : Int32) (l3 : Int32) (σ : Sg) : Option (Int32 × Sg) :=
  chk (ckO σ 5 l0) <|
  bnd (DX7_endorsingRefused l0 l1 l2 l3 σ) fun v1 σ2 =>
  if v1 = 0 then
    chk (ckO σ2 5 l0) <|
    bnd (DX7_shareEndorsed l0 l1 l2 l3 σ2) fun v3 σ4 =>
    DX7_wouldEndorse_26 v3 σ4
  else
    DX7_wouldEndorse_26 v1 σ2
theorem mX7_wouldEndorse (E : Ev) (l : Launch) {l0 : Nat} {l1 : Int32} {l2 : Int32} {l3 : Int32} {σ : Sg} {r : Int32} {σ' : Sg} (h : DX7_wouldEndorse l0 l1 l2 l3 σ = some (r, σ')) : Mt E l yX7_wouldEndorse cX7_wouldEndorse 5 (some .int) 6 0 0 [.ref (ad E l0), .int l1, .int l2, .int l3] σ (some (.int r)) σ' := by
  refine Mt.ofX (by decide) (Nat.le_of_ble_eq_true rfl) (L0 := [some (.ref (ad E l0)), some (.int l1), some (.int l2), some (.int l3), none]) (xEntN_ok [.ref (ad E l0), .int l1, .int l2, .int l3] 5) (fun p e s m args below meth c C hr hn => ?_)
  unfold DX7_wouldEndorse at h
  refine x_aload_n (pc := 0) C dX7_wouldEndorse_0 rfl rfl ?_
  refine x_iload_n (pc := 1) C dX7_wouldEndorse_1 rfl rfl ?_
  refine x_iload_n (pc := 2) C dX7_wouldEndorse_2 rfl rfl ?_
  refine x_iload_n (pc := 3) C dX7_wouldEndorse_3 rfl rfl ?_
  obtain ⟨k, h⟩ := chk_s h
  have k2 := k
  obtain ⟨v1, σ2, k, h⟩ := bnd_s h
  refine x_callV1 (pc := 4) C (mX7_endorsingRefused E l k) cl5 k2 cX7_264 nX7_endorsingRefused sX7_endorsingRefused rfl rfl (Nat.le_of_ble_eq_true rfl) ⟨Nat.le_of_ble_eq_true rfl, Nat.le_of_ble_eq_true rfl, Nat.le_of_ble_eq_true rfl, Nat.le_of_ble_eq_true rfl⟩ dX7_wouldEndorse_4 ?_
  refine x_istore (M := [some _, some _, some _, some _, some _]) (pc := 7) C dX7_wouldEndorse_7 (by decide) rfl ?_
  refine x_iload (pc := 9) C dX7_wouldEndorse_9 rfl ?_
  refine x_if_eq (pc := 11) (tgt := 19) C dX7_wouldEndorse_11 (by decide) (fun q => ?_) (fun q => ?_)
  · rw [if_pos q] at h
    refine x_aload_n (pc := 19) C dX7_wouldEndorse_19 rfl rfl ?_
    refine x_iload_n (pc := 20) C dX7_wouldEndorse_20 rfl rfl ?_
    refine x_iload_n (pc := 21) C dX7_wouldEndorse_21 rfl rfl ?_
    refine x_iload_n (pc := 22) C dX7_wouldEndorse_22 rfl rfl ?_
    obtain ⟨k, h⟩ := chk_s h
    have k2 := k
    obtain ⟨v3, σ4, k, h⟩ := bnd_s h
    refine x_callV1 (pc := 23) C (mX7_shareEndorsed E l k) cl5 k2 cX7_308 nX7_shareEndorsed sX7_shareEndorsed rfl rfl (Nat.le_of_ble_eq_true rfl) ⟨Nat.le_of_ble_eq_true rfl, Nat.le_of_ble_eq_true rfl, Nat.le_of_ble_eq_true rfl, Nat.le_of_ble_eq_true rfl⟩ dX7_wouldEndorse_23 ?_
    exact x_sub (tX7_wouldEndorse_26 C hr h) (xLe_n (xLe_n (xLe_n (xLe_n (xLe_n xLe_0)))))
  · rw [if_neg q] at h
    refine x_iload (pc := 14) C dX7_wouldEndorse_14 rfl ?_
    refine x_goto (tgt := 26) (pc := 16) C dX7_wouldEndorse_16 (by decide) ?_
    exact x_sub (tX7_wouldEndorse_26 C hr h) (xLe_n (xLe_n (xLe_n (xLe_n (xLe_n xLe_0)))))
def DX7_cheapest_9 (σ : Sg) : Option (Int32 × Sg) :=
  some ((-1 : Int32), σ)
theorem tX7_cheapest_9 {r : Int32} {σ' : Sg} (C : Cx E p s m args meth c RX7 cX7_cheapest 9) (hr : meth.sig.returnType = (some .int)) {σ : Sg} (h : DX7_cheapest_9  σ = some (r, σ')) : Y E p l e (rmA 6 0 0) s m args below meth c (some (.int r)) σ' 0 0 9 0 0 σ 9 [none, none, none, none, none, none, none, none, none] [] := by
  unfold DX7_cheapest_9 at h
  refine x_iconst (v := -1) (pc := 9) C dX7_cheapest_9 (by decide) ?_
  cases h
  exact x_iret C hr dX7_cheapest_10
def DX7_cheapest_80 (K43 : Nat → Int32 → Int32 → Int32 → Int32 → Int32 → Int32 → Sg → Option (Int32 × Sg)) (l0 : Nat) (l1 : Int32) (l2 : Int32) (l3 : Int32) (l5 : Int32) (l6 : Int32) (l7 : Int32) (σ : Sg) : Option (Int32 × Sg) :=
  K43 l0 l1 l2 l3 l5 l6 (l7 + (1 : Int32)) σ
theorem tX7_cheapest_80 {r : Int32} {σ' : Sg} (C : Cx E p s m args meth c RX7 cX7_cheapest 9) (hr : meth.sig.returnType = (some .int)) {K43 : Nat → Int32 → Int32 → Int32 → Int32 → Int32 → Int32 → Sg → Option (Int32 × Sg)} (hK43 : ∀ (l0 : Nat) (l1 : Int32) (l2 : Int32) (l3 : Int32) (l5 : Int32) (l6 : Int32) (l7 : Int32) (σ : Sg), K43 l0 l1 l2 l3 l5 l6 l7 σ = some (r, σ') → Y E p l e (rmA 6 0 0) s m args below meth c (some (.int r)) σ' 0 0 9 0 0 σ 43 [some (.ref (ad E l0)), some (.int l1), some (.int l2), some (.int l3), none, some (.int l5), some (.int l6), some (.int l7), none] []) {l0 : Nat} {l1 : Int32} {l2 : Int32} {l3 : Int32} {l5 : Int32} {l6 : Int32} {l7 : Int32} {σ : Sg} (h : DX7_cheapest_80 K43 l0 l1 l2 l3 l5 l6 l7 σ = some (r, σ')) : Y E p l e (rmA 6 0 0) s m args below meth c (some (.int r)) σ' 0 0 9 0 0 σ 80 [some (.ref (ad E l0)), some (.int l1), some (.int l2), some (.int l3), none, some (.int l5), some (.int l6), some (.int l7), none] [] := by
  unfold DX7_cheapest_80 at h
  refine x_iinc (v := 1) (M := [some _, some _, some _, some _, none, some _, some _, some _, none]) (pc := 80) C dX7_cheapest_80 rfl (by decide) (by decide) rfl ?_
  refine x_goto (tgt := 43) (pc := 83) C dX7_cheapest_83 (by decide) ?_
  exact x_sub (hK43 _ _ _ _ _ _ _ _ h) (xLe_s (xLe_s (xLe_s (xLe_s (xLe_n (xLe_s (xLe_s (xLe_s (xLe_n xLe_0)))))))))
def DX7_cheapest_97 (s0 : Int32) (σ : Sg) : Option (Int32 × Sg) :=
  some (s0, σ)
theorem tX7_cheapest_97 {r : Int32} {σ' : Sg} (C : Cx E p s m args meth c RX7 cX7_cheapest 9) (hr : meth.sig.returnType = (some .int)) {s0 : Int32} {σ : Sg} (h : DX7_cheapest_97 s0 σ = some (r, σ')) : Y E p l e (rmA 6 0 0) s m args below meth c (some (.int r)) σ' 0 0 9 0 0 σ 97 [none, none, none, none, none, none, none, none, none] [.int s0] := by
  unfold DX7_cheapest_97 at h
  cases h
  exact x_iret C hr dX7_cheapest_97
def DX7_cheapest_86 (l3 : Int32) (l5 : Int32) (l6 : Int32) (σ : Sg) : Option (Int32 × Sg) :=
  if l3 = 0 then
    DX7_cheapest_97 l5 σ
  else
    DX7_cheapest_97 l6 σ
theorem tX7_cheapest_86 {r : Int32} {σ' : Sg} (C : Cx E p s m args meth c RX7 cX7_cheapest 9) (hr : meth.sig.returnType = (some .int)) {l3 : Int32} {l5 : Int32} {l6 : Int32} {σ : Sg} (h : DX7_cheapest_86 l3 l5 l6 σ = some (r, σ')) : Y E p l e (rmA 6 0 0) s m args below meth c (some (.int r)) σ' 0 0 9 0 0 σ 86 [none, none, none, some (.int l3), none, some (.int l5), some (.int l6), none, none] [] := by
  unfold DX7_cheapest_86 at h
  refine x_iload_n (pc := 86) C dX7_cheapest_86 rfl rfl ?_
  refine x_if_ne (pc := 87) (tgt := 95) C dX7_cheapest_87 (by decide) (fun q => ?_) (fun q => ?_)
  · rw [if_pos q] at h
    refine x_iload (pc := 90) C dX7_cheapest_90 rfl ?_
    refine x_goto (tgt := 97) (pc := 92) C dX7_cheapest_92 (by decide) ?_
    exact x_sub (tX7_cheapest_97 C hr h) (xLe_n (xLe_n (xLe_n (xLe_n (xLe_n (xLe_n (xLe_n (xLe_n (xLe_n xLe_0)))))))))
  · rw [if_neg q] at h
    refine x_iload (pc := 95) C dX7_cheapest_95 rfl ?_
    exact x_sub (tX7_cheapest_97 C hr h) (xLe_n (xLe_n (xLe_n (xLe_n (xLe_n (xLe_n (xLe_n (xLe_n (xLe_n xLe_0)))))))))
def DX7_cheapest_43 : Nat → Nat → Int32 → Int32 → Int32 → Int32 → Int32 → Int32 → Sg → Option (Int32 × Sg)
  | 0, _, _, _, _, _, _, _, _ => none
  | n + 1, l0, l1, l2, l3, l5, l6, l7, σ =>
    chk (ckO σ 5 l0) <|
    chk (ckV (gR σ l0 2)) <|
    chk (ckO σ 0 (gR σ l0 2)) <|
    if (gI σ (gR σ l0 2) 2) ≤ l7 then
      DX7_cheapest_86 l3 l5 l6 σ
    else
      chk (ckO σ 5 l0) <|
      bnd (DX7_shareEndorsed l0 l1 l2 l7 σ) fun v1 σ2 =>
      if l6 ≤ v1 then
        DX7_cheapest_80 (DX7_cheapest_43 n) l0 l1 l2 l3 l5 l6 l7 σ2
      else
        DX7_cheapest_80 (DX7_cheapest_43 n) l0 l1 l2 l3 l7 v1 l7 σ2
theorem tX7_cheapest_43 {r : Int32} {σ' : Sg} (C : Cx E p s m args meth c RX7 cX7_cheapest 9) (hr : meth.sig.returnType = (some .int)) : ∀ (n : Nat) (l0 : Nat) (l1 : Int32) (l2 : Int32) (l3 : Int32) (l5 : Int32) (l6 : Int32) (l7 : Int32) (σ : Sg) (h : DX7_cheapest_43 n l0 l1 l2 l3 l5 l6 l7 σ = some (r, σ')), Y E p l e (rmA 6 0 0) s m args below meth c (some (.int r)) σ' 0 0 9 0 0 σ 43 [some (.ref (ad E l0)), some (.int l1), some (.int l2), some (.int l3), none, some (.int l5), some (.int l6), some (.int l7), none] [] := by
  intro n
  induction n with
  | zero => intro l0 l1 l2 l3 l5 l6 l7 σ h; cases h
  | succ n ih =>
    intro l0 l1 l2 l3 l5 l6 l7 σ h
    unfold DX7_cheapest_43 at h
    refine x_iload (pc := 43) C dX7_cheapest_43 rfl ?_
    refine x_aload_n (pc := 45) C dX7_cheapest_45 rfl rfl ?_
    obtain ⟨k, h⟩ := chk_s h
    have k2 := k
    obtain ⟨k, h⟩ := chk_s h
    refine x_getR (pc := 46) C fX7_20 rfl k2 k dX7_cheapest_46 ?_
    obtain ⟨k, h⟩ := chk_s h
    refine x_getI (pc := 49) C fX7_94 rfl k dX7_cheapest_49 ?_
    refine x_icmp_ge (pc := 52) (tgt := 86) C dX7_cheapest_52 (by decide) (fun q => ?_) (fun q => ?_)
    · rw [if_pos q] at h
      exact x_sub (tX7_cheapest_86 C hr h) (xLe_n (xLe_n (xLe_n (xLe_s (xLe_n (xLe_s (xLe_s (xLe_n (xLe_n xLe_0)))))))))
    · rw [if_neg q] at h
      refine x_aload_n (pc := 55) C dX7_cheapest_55 rfl rfl ?_
      refine x_iload_n (pc := 56) C dX7_cheapest_56 rfl rfl ?_
      refine x_iload_n (pc := 57) C dX7_cheapest_57 rfl rfl ?_
      refine x_iload (pc := 58) C dX7_cheapest_58 rfl ?_
      obtain ⟨k, h⟩ := chk_s h
      have k2 := k
      obtain ⟨v1, σ2, k, h⟩ := bnd_s h
      refine x_callV1 (pc := 60) C (mX7_shareEndorsed E l k) cl5 k2 cX7_308 nX7_shareEndorsed sX7_shareEndorsed rfl rfl (Nat.le_of_ble_eq_true rfl) ⟨Nat.le_of_ble_eq_true rfl, Nat.le_of_ble_eq_true rfl, Nat.le_of_ble_eq_true rfl, Nat.le_of_ble_eq_true rfl⟩ dX7_cheapest_60 ?_
      refine x_istore (M := [some _, some _, some _, some _, none, some _, some _, some _, some _]) (pc := 63) C dX7_cheapest_63 (by decide) rfl ?_
      refine x_iload (pc := 65) C dX7_cheapest_65 rfl ?_
      refine x_iload (pc := 67) C dX7_cheapest_67 rfl ?_
      refine x_icmp_ge (pc := 69) (tgt := 80) C dX7_cheapest_69 (by decide) (fun q => ?_) (fun q => ?_)
      · rw [if_pos q] at h
        exact x_sub (tX7_cheapest_80 C hr ih h) (xLe_s (xLe_s (xLe_s (xLe_s (xLe_n (xLe_s (xLe_s (xLe_s (xLe_n xLe_0)))))))))
      · rw [if_neg q] at h
        refine x_iload (pc := 72) C dX7_cheapest_72 rfl ?_
        refine x_istore (M := [some _, some _, some _, some _, none, some _, some _, some _, some _]) (pc := 74) C dX7_cheapest_74 (by decide) rfl ?_
        refine x_iload (pc := 76) C dX7_cheapest_76 rfl ?_
        refine x_istore (M := [some _, some _, some _, some _, none, some _, some _, some _, some _]) (pc := 78) C dX7_cheapest_78 (by decide) rfl ?_
        exact x_sub (tX7_cheapest_80 C hr ih h) (xLe_s (xLe_s (xLe_s (xLe_s (xLe_n (xLe_s (xLe_s (xLe_s (xLe_n xLe_0)))))))))
def DX7_cheapest (l0 : Nat) (l1 : Int32) (l2 : Int32) (l3 : Int32) (σ : Sg) : Option (Int32 × Sg) :=
  if l3 < 0 then
    DX7_cheapest_9 σ
  else
    if l3 ≤ (1 : Int32) then
      chk (ckO σ 5 l0) <|
      bnd (DX7_endorsingRefused l0 l1 l2 (0 : Int32) σ) fun v1 σ2 =>
      if v1 = 0 then
        chk (ckO σ2 5 l0) <|
        bnd (DX7_shareEndorsed l0 l1 l2 (0 : Int32) σ2) fun v3 σ4 =>
        DX7_cheapest_43 FU l0 l1 l2 l3 (0 : Int32) v3 (1 : Int32) σ4
      else
        some (v1, σ2)
    else
      DX7_cheapest_9 σ
theorem mX7_cheapest (E : Ev) (l : Launch) {l0 : Nat} {l1 : Int32} {l2 : Int32} {l3 : Int32} {σ : Sg} {r : Int32} {σ' : Sg} (h : DX7_cheapest l0 l1 l2 l3 σ = some (r, σ')) : Mt E l yX7_cheapest cX7_cheapest 9 (some .int) 6 0 0 [.ref (ad E l0), .int l1, .int l2, .int l3] σ (some (.int r)) σ' := by
  refine Mt.ofX (by decide) (Nat.le_of_ble_eq_true rfl) (L0 := [some (.ref (ad E l0)), some (.int l1), some (.int l2), some (.int l3), none, none, none, none, none]) (xEntN_ok [.ref (ad E l0), .int l1, .int l2, .int l3] 9) (fun p e s m args below meth c C hr hn => ?_)
  unfold DX7_cheapest at h
  refine x_iload_n (pc := 0) C dX7_cheapest_0 rfl rfl ?_
  refine x_if_lt (pc := 1) (tgt := 9) C dX7_cheapest_1 (by decide) (fun q => ?_) (fun q => ?_)
  · rw [if_pos q] at h
    exact x_sub (tX7_cheapest_9 C hr h) (xLe_n (xLe_n (xLe_n (xLe_n (xLe_n (xLe_n (xLe_n (xLe_n (xLe_n xLe_0)))))))))
  · rw [if_neg q] at h
    refine x_iload_n (pc := 4) C dX7_cheapest_4 rfl rfl ?_
    refine x_iconst (v := 1) (pc := 5) C dX7_cheapest_5 (by decide) ?_
    refine x_icmp_le (pc := 6) (tgt := 11) C dX7_cheapest_6 (by decide) (fun q => ?_) (fun q => ?_)
    · rw [if_pos q] at h
      refine x_aload_n (pc := 11) C dX7_cheapest_11 rfl rfl ?_
      refine x_iload_n (pc := 12) C dX7_cheapest_12 rfl rfl ?_
      refine x_iload_n (pc := 13) C dX7_cheapest_13 rfl rfl ?_
      refine x_iconst (v := 0) (pc := 14) C dX7_cheapest_14 (by decide) ?_
      obtain ⟨k, h⟩ := chk_s h
      have k2 := k
      obtain ⟨v1, σ2, k, h⟩ := bnd_s h
      refine x_callV1 (pc := 15) C (mX7_endorsingRefused E l k) cl5 k2 cX7_264 nX7_endorsingRefused sX7_endorsingRefused rfl rfl (Nat.le_of_ble_eq_true rfl) ⟨Nat.le_of_ble_eq_true rfl, Nat.le_of_ble_eq_true rfl, Nat.le_of_ble_eq_true rfl, Nat.le_of_ble_eq_true rfl⟩ dX7_cheapest_15 ?_
      refine x_istore (M := [some _, some _, some _, some _, some _, none, none, none, none]) (pc := 18) C dX7_cheapest_18 (by decide) rfl ?_
      refine x_iload (pc := 20) C dX7_cheapest_20 rfl ?_
      refine x_if_eq (pc := 22) (tgt := 28) C dX7_cheapest_22 (by decide) (fun q => ?_) (fun q => ?_)
      · rw [if_pos q] at h
        refine x_iconst (v := 0) (pc := 28) C dX7_cheapest_28 (by decide) ?_
        refine x_istore (M := [some _, some _, some _, some _, some _, some _, none, none, none]) (pc := 29) C dX7_cheapest_29 (by decide) rfl ?_
        refine x_aload_n (pc := 31) C dX7_cheapest_31 rfl rfl ?_
        refine x_iload_n (pc := 32) C dX7_cheapest_32 rfl rfl ?_
        refine x_iload_n (pc := 33) C dX7_cheapest_33 rfl rfl ?_
        refine x_iconst (v := 0) (pc := 34) C dX7_cheapest_34 (by decide) ?_
        obtain ⟨k, h⟩ := chk_s h
        have k2 := k
        obtain ⟨v3, σ4, k, h⟩ := bnd_s h
        refine x_callV1 (pc := 35) C (mX7_shareEndorsed E l k) cl5 k2 cX7_308 nX7_shareEndorsed sX7_shareEndorsed rfl rfl (Nat.le_of_ble_eq_true rfl) ⟨Nat.le_of_ble_eq_true rfl, Nat.le_of_ble_eq_true rfl, Nat.le_of_ble_eq_true rfl, Nat.le_of_ble_eq_true rfl⟩ dX7_cheapest_35 ?_
        refine x_istore (M := [some _, some _, some _, some _, some _, some _, some _, none, none]) (pc := 38) C dX7_cheapest_38 (by decide) rfl ?_
        refine x_iconst (v := 1) (pc := 40) C dX7_cheapest_40 (by decide) ?_
        refine x_istore (M := [some _, some _, some _, some _, some _, some _, some _, some _, none]) (pc := 41) C dX7_cheapest_41 (by decide) rfl ?_
        exact x_sub (tX7_cheapest_43 C hr FU _ _ _ _ _ _ _ _ h) (xLe_s (xLe_s (xLe_s (xLe_s (xLe_n (xLe_s (xLe_s (xLe_s (xLe_n xLe_0)))))))))
      · rw [if_neg q] at h
        refine x_iload (pc := 25) C dX7_cheapest_25 rfl ?_
        cases h
        exact x_iret C hr dX7_cheapest_27
    · rw [if_neg q] at h
      exact x_sub (tX7_cheapest_9 C hr h) (xLe_n (xLe_n (xLe_n (xLe_n (xLe_n (xLe_n (xLe_n (xLe_n (xLe_n xLe_0)))))))))
def DX7_flownShares_65 (K4 : Nat → Int32 → Int32 → Int32 → Sg → Option (Int32 × Sg)) (K18 : Nat → Int32 → Int32 → Int32 → Int32 → Sg → Option (Int32 × Sg)) (l0 : Nat) (l1 : Int32) (l3 : Int32) (l4 : Int32) (s0 : Int32) (s1 : Int32) (σ : Sg) : Option (Int32 × Sg) :=
  K18 l0 l1 (s0 + s1) l3 (l4 + (1 : Int32)) σ
theorem tX7_flownShares_65 {r : Int32} {σ' : Sg} (C : Cx E p s m args meth c RX7 cX7_flownShares 5) (hr : meth.sig.returnType = (some .int)) {K4 : Nat → Int32 → Int32 → Int32 → Sg → Option (Int32 × Sg)} (hK4 : ∀ (l0 : Nat) (l1 : Int32) (l2 : Int32) (l3 : Int32) (σ : Sg), K4 l0 l1 l2 l3 σ = some (r, σ') → Y E p l e (rmA 1 0 0) s m args below meth c (some (.int r)) σ' 0 0 5 0 0 σ 4 [some (.ref (ad E l0)), some (.int l1), some (.int l2), some (.int l3), none] []) {K18 : Nat → Int32 → Int32 → Int32 → Int32 → Sg → Option (Int32 × Sg)} (hK18 : ∀ (l0 : Nat) (l1 : Int32) (l2 : Int32) (l3 : Int32) (l4 : Int32) (σ : Sg), K18 l0 l1 l2 l3 l4 σ = some (r, σ') → Y E p l e (rmA 1 0 0) s m args below meth c (some (.int r)) σ' 0 0 5 0 0 σ 18 [some (.ref (ad E l0)), some (.int l1), some (.int l2), some (.int l3), some (.int l4)] []) {l0 : Nat} {l1 : Int32} {l3 : Int32} {l4 : Int32} {s0 : Int32} {s1 : Int32} {σ : Sg} (h : DX7_flownShares_65 K4 K18 l0 l1 l3 l4 s0 s1 σ = some (r, σ')) : Y E p l e (rmA 1 0 0) s m args below meth c (some (.int r)) σ' 0 0 5 0 0 σ 65 [some (.ref (ad E l0)), some (.int l1), none, some (.int l3), some (.int l4)] [.int s1, .int s0] := by
  unfold DX7_flownShares_65 at h
  refine x_iadd (pc := 65) C dX7_flownShares_65 ?_
  refine x_istore_n (M := [some _, some _, some _, some _, some _]) (pc := 66) C dX7_flownShares_66 rfl (by decide) rfl ?_
  refine x_iinc (v := 1) (M := [some _, some _, some _, some _, some _]) (pc := 67) C dX7_flownShares_67 rfl (by decide) (by decide) rfl ?_
  refine x_goto (tgt := 18) (pc := 70) C dX7_flownShares_70 (by decide) ?_
  exact x_sub (hK18 _ _ _ _ _ _ h) (xLe_s (xLe_s (xLe_s (xLe_s (xLe_s xLe_0)))))
def DX7_flownShares_73 (K4 : Nat → Int32 → Int32 → Int32 → Sg → Option (Int32 × Sg)) (l0 : Nat) (l1 : Int32) (l2 : Int32) (l3 : Int32) (σ : Sg) : Option (Int32 × Sg) :=
  K4 l0 l1 l2 (l3 + (1 : Int32)) σ
theorem tX7_flownShares_73 {r : Int32} {σ' : Sg} (C : Cx E p s m args meth c RX7 cX7_flownShares 5) (hr : meth.sig.returnType = (some .int)) {K4 : Nat → Int32 → Int32 → Int32 → Sg → Option (Int32 × Sg)} (hK4 : ∀ (l0 : Nat) (l1 : Int32) (l2 : Int32) (l3 : Int32) (σ : Sg), K4 l0 l1 l2 l3 σ = some (r, σ') → Y E p l e (rmA 1 0 0) s m args below meth c (some (.int r)) σ' 0 0 5 0 0 σ 4 [some (.ref (ad E l0)), some (.int l1), some (.int l2), some (.int l3), none] []) {l0 : Nat} {l1 : Int32} {l2 : Int32} {l3 : Int32} {σ : Sg} (h : DX7_flownShares_73 K4 l0 l1 l2 l3 σ = some (r, σ')) : Y E p l e (rmA 1 0 0) s m args below meth c (some (.int r)) σ' 0 0 5 0 0 σ 73 [some (.ref (ad E l0)), some (.int l1), some (.int l2), some (.int l3), none] [] := by
  unfold DX7_flownShares_73 at h
  refine x_iinc (v := 1) (M := [some _, some _, some _, some _, none]) (pc := 73) C dX7_flownShares_73 rfl (by decide) (by decide) rfl ?_
  refine x_goto (tgt := 4) (pc := 76) C dX7_flownShares_76 (by decide) ?_
  exact x_sub (hK4 _ _ _ _ _ h) (xLe_s (xLe_s (xLe_s (xLe_s (xLe_n xLe_0)))))
def DX7_flownShares_18 (K4 : Nat → Int32 → Int32 → Int32 → Sg → Option (Int32 × Sg)) : Nat → Nat → Int32 → Int32 → Int32 → Int32 → Sg → Option (Int32 × Sg)
  | 0, _, _, _, _, _, _ => none
  | n + 1, l0, l1, l2, l3, l4, σ =>
    chk (ckO σ 5 l0) <|
    chk (ckV (gR σ l0 5)) <|
    chk (ckO σ 1 (gR σ l0 5)) <|
    chk (ckV (gR σ (gR σ l0 5) 1)) <|
    chk (ckI σ (gR σ (gR σ l0 5) 1) l3) <|
    if (aI σ (gR σ (gR σ l0 5) 1) l3.toNatClampNeg) ≤ l4 then
      DX7_flownShares_73 K4 l0 l1 l2 l3 σ
    else
      chk (ckO σ 5 l0) <|
      chk (ckV (gR σ l0 5)) <|
      chk (ckO σ 1 (gR σ l0 5)) <|
      chk (ckV (gR σ (gR σ l0 5) 3)) <|
      chk (ckG σ (gR σ (gR σ l0 5) 3) l3) <|
      chk (ckR σ (gR σ (gR σ l0 5) 3) l3.toNatClampNeg l4) <|
      if (aG σ (gR σ (gR σ l0 5) 3) l3.toNatClampNeg l4.toNatClampNeg) = l1 then
        chk (ckO σ 5 l0) <|
        chk (ckV (gR σ l0 5)) <|
        chk (ckO σ 1 (gR σ l0 5)) <|
        chk (ckV (gR σ (gR σ l0 5) 4)) <|
        chk (ckG σ (gR σ (gR σ l0 5) 4) l3) <|
        chk (ckR σ (gR σ (gR σ l0 5) 4) l3.toNatClampNeg l4) <|
        DX7_flownShares_65 K4 (DX7_flownShares_18 K4 n) l0 l1 l3 l4 l2 (aG σ (gR σ (gR σ l0 5) 4) l3.toNatClampNeg l4.toNatClampNeg) σ
      else
        DX7_flownShares_65 K4 (DX7_flownShares_18 K4 n) l0 l1 l3 l4 l2 (0 : Int32) σ
theorem tX7_flownShares_18 {r : Int32} {σ' : Sg} (C : Cx E p s m args meth c RX7 cX7_flownShares 5) (hr : meth.sig.returnType = (some .int)) {K4 : Nat → Int32 → Int32 → Int32 → Sg → Option (Int32 × Sg)} (hK4 : ∀ (l0 : Nat) (l1 : Int32) (l2 : Int32) (l3 : Int32) (σ : Sg), K4 l0 l1 l2 l3 σ = some (r, σ') → Y E p l e (rmA 1 0 0) s m args below meth c (some (.int r)) σ' 0 0 5 0 0 σ 4 [some (.ref (ad E l0)), some (.int l1), some (.int l2), some (.int l3), none] []) : ∀ (n : Nat) (l0 : Nat) (l1 : Int32) (l2 : Int32) (l3 : Int32) (l4 : Int32) (σ : Sg) (h : DX7_flownShares_18 K4 n l0 l1 l2 l3 l4 σ = some (r, σ')), Y E p l e (rmA 1 0 0) s m args below meth c (some (.int r)) σ' 0 0 5 0 0 σ 18 [some (.ref (ad E l0)), some (.int l1), some (.int l2), some (.int l3), some (.int l4)] [] := by
  intro n
  induction n with
  | zero => intro l0 l1 l2 l3 l4 σ h; cases h
  | succ n ih =>
    intro l0 l1 l2 l3 l4 σ h
    unfold DX7_flownShares_18 at h
    refine x_iload (pc := 18) C dX7_flownShares_18 rfl ?_
    refine x_aload_n (pc := 20) C dX7_flownShares_20 rfl rfl ?_
    obtain ⟨k, h⟩ := chk_s h
    have k2 := k
    obtain ⟨k, h⟩ := chk_s h
    refine x_getR (pc := 21) C fX7_39 rfl k2 k dX7_flownShares_21 ?_
    obtain ⟨k, h⟩ := chk_s h
    have k2 := k
    obtain ⟨k, h⟩ := chk_s h
    refine x_getR (pc := 24) C fX7_175 rfl k2 k dX7_flownShares_24 ?_
    refine x_iload_n (pc := 27) C dX7_flownShares_27 rfl rfl ?_
    obtain ⟨k, h⟩ := chk_s h
    refine x_iald (pc := 28) C k dX7_flownShares_28 ?_
    refine x_icmp_ge (pc := 29) (tgt := 73) C dX7_flownShares_29 (by decide) (fun q => ?_) (fun q => ?_)
    · rw [if_pos q] at h
      exact x_sub (tX7_flownShares_73 C hr hK4 h) (xLe_s (xLe_s (xLe_s (xLe_s (xLe_n xLe_0)))))
    · rw [if_neg q] at h
      refine x_iload_n (pc := 32) C dX7_flownShares_32 rfl rfl ?_
      refine x_aload_n (pc := 33) C dX7_flownShares_33 rfl rfl ?_
      obtain ⟨k, h⟩ := chk_s h
      have k2 := k
      obtain ⟨k, h⟩ := chk_s h
      refine x_getR (pc := 34) C fX7_39 rfl k2 k dX7_flownShares_34 ?_
      obtain ⟨k, h⟩ := chk_s h
      have k2 := k
      obtain ⟨k, h⟩ := chk_s h
      refine x_getR (pc := 37) C fX7_200 rfl k2 k dX7_flownShares_37 ?_
      refine x_iload_n (pc := 40) C dX7_flownShares_40 rfl rfl ?_
      obtain ⟨k, h⟩ := chk_s h
      refine x_gald (pc := 41) C k dX7_flownShares_41 ?_
      refine x_iload (pc := 42) C dX7_flownShares_42 rfl ?_
      obtain ⟨k, h⟩ := chk_s h
      refine x_rald (pc := 44) C k dX7_flownShares_44 ?_
      refine x_iload_n (pc := 45) C dX7_flownShares_45 rfl rfl ?_
      refine x_icmp_ne (pc := 46) (tgt := 64) C dX7_flownShares_46 (by decide) (fun q => ?_) (fun q => ?_)
      · rw [if_pos q] at h
        refine x_aload_n (pc := 49) C dX7_flownShares_49 rfl rfl ?_
        obtain ⟨k, h⟩ := chk_s h
        have k2 := k
        obtain ⟨k, h⟩ := chk_s h
        refine x_getR (pc := 50) C fX7_39 rfl k2 k dX7_flownShares_50 ?_
        obtain ⟨k, h⟩ := chk_s h
        have k2 := k
        obtain ⟨k, h⟩ := chk_s h
        refine x_getR (pc := 53) C fX7_194 rfl k2 k dX7_flownShares_53 ?_
        refine x_iload_n (pc := 56) C dX7_flownShares_56 rfl rfl ?_
        obtain ⟨k, h⟩ := chk_s h
        refine x_gald (pc := 57) C k dX7_flownShares_57 ?_
        refine x_iload (pc := 58) C dX7_flownShares_58 rfl ?_
        obtain ⟨k, h⟩ := chk_s h
        refine x_rald (pc := 60) C k dX7_flownShares_60 ?_
        refine x_goto (tgt := 65) (pc := 61) C dX7_flownShares_61 (by decide) ?_
        exact x_sub (tX7_flownShares_65 C hr hK4 ih h) (xLe_s (xLe_s (xLe_n (xLe_s (xLe_s xLe_0)))))
      · rw [if_neg q] at h
        refine x_iconst (v := 0) (pc := 64) C dX7_flownShares_64 (by decide) ?_
        exact x_sub (tX7_flownShares_65 C hr hK4 ih h) (xLe_s (xLe_s (xLe_n (xLe_s (xLe_s xLe_0)))))
def DX7_flownShares_79 (l2 : Int32) (σ : Sg) : Option (Int32 × Sg) :=
  some (l2, σ)
theorem tX7_flownShares_79 {r : Int32} {σ' : Sg} (C : Cx E p s m args meth c RX7 cX7_flownShares 5) (hr : meth.sig.returnType = (some .int)) {l2 : Int32} {σ : Sg} (h : DX7_flownShares_79 l2 σ = some (r, σ')) : Y E p l e (rmA 1 0 0) s m args below meth c (some (.int r)) σ' 0 0 5 0 0 σ 79 [none, none, some (.int l2), none, none] [] := by
  unfold DX7_flownShares_79 at h
  refine x_iload_n (pc := 79) C dX7_flownShares_79 rfl rfl ?_
  cases h
  exact x_iret C hr dX7_flownShares_80
def DX7_flownShares_4 : Nat → Nat → Int32 → Int32 → Int32 → Sg → Option (Int32 × Sg)
  | 0, _, _, _, _, _ => none
  | n + 1, l0, l1, l2, l3, σ =>
    chk (ckO σ 5 l0) <|
    chk (ckV (gR σ l0 2)) <|
    chk (ckO σ 0 (gR σ l0 2)) <|
    if (gI σ (gR σ l0 2) 9) ≤ l3 then
      DX7_flownShares_79 l2 σ
    else
      DX7_flownShares_18 (DX7_flownShares_4 n) FU l0 l1 l2 l3 (0 : Int32) σ
theorem tX7_flownShares_4 {r : Int32} {σ' : Sg} (C : Cx E p s m args meth c RX7 cX7_flownShares 5) (hr : meth.sig.returnType = (some .int)) : ∀ (n : Nat) (l0 : Nat) (l1 : Int32) (l2 : Int32) (l3 : Int32) (σ : Sg) (h : DX7_flownShares_4 n l0 l1 l2 l3 σ = some (r, σ')), Y E p l e (rmA 1 0 0) s m args below meth c (some (.int r)) σ' 0 0 5 0 0 σ 4 [some (.ref (ad E l0)), some (.int l1), some (.int l2), some (.int l3), none] [] := by
  intro n
  induction n with
  | zero => intro l0 l1 l2 l3 σ h; cases h
  | succ n ih =>
    intro l0 l1 l2 l3 σ h
    unfold DX7_flownShares_4 at h
    refine x_iload_n (pc := 4) C dX7_flownShares_4 rfl rfl ?_
    refine x_aload_n (pc := 5) C dX7_flownShares_5 rfl rfl ?_
    obtain ⟨k, h⟩ := chk_s h
    have k2 := k
    obtain ⟨k, h⟩ := chk_s h
    refine x_getR (pc := 6) C fX7_20 rfl k2 k dX7_flownShares_6 ?_
    obtain ⟨k, h⟩ := chk_s h
    refine x_getI (pc := 9) C fX7_100 rfl k dX7_flownShares_9 ?_
    refine x_icmp_ge (pc := 12) (tgt := 79) C dX7_flownShares_12 (by decide) (fun q => ?_) (fun q => ?_)
    · rw [if_pos q] at h
      exact x_sub (tX7_flownShares_79 C hr h) (xLe_n (xLe_n (xLe_s (xLe_n (xLe_n xLe_0)))))
    · rw [if_neg q] at h
      refine x_iconst (v := 0) (pc := 15) C dX7_flownShares_15 (by decide) ?_
      refine x_istore (M := [some _, some _, some _, some _, some _]) (pc := 16) C dX7_flownShares_16 (by decide) rfl ?_
      exact x_sub (tX7_flownShares_18 C hr ih FU _ _ _ _ _ _ h) (xLe_s (xLe_s (xLe_s (xLe_s (xLe_s xLe_0)))))
def DX7_flownShares (l0 : Nat) (l1 : Int32) (σ : Sg) : Option (Int32 × Sg) :=
  DX7_flownShares_4 FU l0 l1 (0 : Int32) (0 : Int32) σ
theorem mX7_flownShares (E : Ev) (l : Launch) {l0 : Nat} {l1 : Int32} {σ : Sg} {r : Int32} {σ' : Sg} (h : DX7_flownShares l0 l1 σ = some (r, σ')) : Mt E l yX7_flownShares cX7_flownShares 5 (some .int) 1 0 0 [.ref (ad E l0), .int l1] σ (some (.int r)) σ' := by
  refine Mt.ofX (by decide) (Nat.le_of_ble_eq_true rfl) (L0 := [some (.ref (ad E l0)), some (.int l1), none, none, none]) (xEntN_ok [.ref (ad E l0), .int l1] 5) (fun p e s m args below meth c C hr hn => ?_)
  unfold DX7_flownShares at h
  refine x_iconst (v := 0) (pc := 0) C dX7_flownShares_0 (by decide) ?_
  refine x_istore_n (M := [some _, some _, some _, none, none]) (pc := 1) C dX7_flownShares_1 rfl (by decide) rfl ?_
  refine x_iconst (v := 0) (pc := 2) C dX7_flownShares_2 (by decide) ?_
  refine x_istore_n (M := [some _, some _, some _, some _, none]) (pc := 3) C dX7_flownShares_3 rfl (by decide) rfl ?_
  exact x_sub (tX7_flownShares_4 C hr FU _ _ _ _ _ h) (xLe_s (xLe_s (xLe_s (xLe_s (xLe_n xLe_0)))))
def DX7_openShares_82 (K4 : Nat → Int32 → Int32 → Int32 → Sg → Option (Int32 × Sg)) (K41 : Nat → Int32 → Int32 → Int32 → Int32 → Sg → Option (Int32 × Sg)) (l0 : Nat) (l1 : Int32) (l3 : Int32) (l4 : Int32) (s0 : Int32) (s1 : Int32) (σ : Sg) : Option (Int32 × Sg) :=
  K41 l0 l1 (s0 + s1) l3 (l4 + (1 : Int32)) σ
theorem tX7_openShares_82 {r : Int32} {σ' : Sg} (C : Cx E p s m args meth c RX7 cX7_openShares 5) (hr : meth.sig.returnType = (some .int)) {K4 : Nat → Int32 → Int32 → Int32 → Sg → Option (Int32 × Sg)} (hK4 : ∀ (l0 : Nat) (l1 : Int32) (l2 : Int32) (l3 : Int32) (σ : Sg), K4 l0 l1 l2 l3 σ = some (r, σ') → Y E p l e (rmA 6 0 0) s m args below meth c (some (.int r)) σ' 0 0 5 0 0 σ 4 [some (.ref (ad E l0)), some (.int l1), some (.int l2), some (.int l3), none] []) {K41 : Nat → Int32 → Int32 → Int32 → Int32 → Sg → Option (Int32 × Sg)} (hK41 : ∀ (l0 : Nat) (l1 : Int32) (l2 : Int32) (l3 : Int32) (l4 : Int32) (σ : Sg), K41 l0 l1 l2 l3 l4 σ = some (r, σ') → Y E p l e (rmA 6 0 0) s m args below meth c (some (.int r)) σ' 0 0 5 0 0 σ 41 [some (.ref (ad E l0)), some (.int l1), some (.int l2), some (.int l3), some (.int l4)] []) {l0 : Nat} {l1 : Int32} {l3 : Int32} {l4 : Int32} {s0 : Int32} {s1 : Int32} {σ : Sg} (h : DX7_openShares_82 K4 K41 l0 l1 l3 l4 s0 s1 σ = some (r, σ')) : Y E p l e (rmA 6 0 0) s m args below meth c (some (.int r)) σ' 0 0 5 0 0 σ 82 [some (.ref (ad E l0)), some (.int l1), none, some (.int l3), some (.int l4)] [.int s1, .int s0] := by
  unfold DX7_openShares_82 at h
  refine x_iadd (pc := 82) C dX7_openShares_82 ?_
  refine x_istore_n (M := [some _, some _, some _, some _, some _]) (pc := 83) C dX7_openShares_83 rfl (by decide) rfl ?_
  refine x_iinc (v := 1) (M := [some _, some _, some _, some _, some _]) (pc := 84) C dX7_openShares_84 rfl (by decide) (by decide) rfl ?_
  refine x_goto (tgt := 41) (pc := 87) C dX7_openShares_87 (by decide) ?_
  exact x_sub (hK41 _ _ _ _ _ _ h) (xLe_s (xLe_s (xLe_s (xLe_s (xLe_s xLe_0)))))
def DX7_openShares_90 (K4 : Nat → Int32 → Int32 → Int32 → Sg → Option (Int32 × Sg)) (l0 : Nat) (l1 : Int32) (l2 : Int32) (l3 : Int32) (σ : Sg) : Option (Int32 × Sg) :=
  K4 l0 l1 l2 (l3 + (1 : Int32)) σ
theorem tX7_openShares_90 {r : Int32} {σ' : Sg} (C : Cx E p s m args meth c RX7 cX7_openShares 5) (hr : meth.sig.returnType = (some .int)) {K4 : Nat → Int32 → Int32 → Int32 → Sg → Option (Int32 × Sg)} (hK4 : ∀ (l0 : Nat) (l1 : Int32) (l2 : Int32) (l3 : Int32) (σ : Sg), K4 l0 l1 l2 l3 σ = some (r, σ') → Y E p l e (rmA 6 0 0) s m args below meth c (some (.int r)) σ' 0 0 5 0 0 σ 4 [some (.ref (ad E l0)), some (.int l1), some (.int l2), some (.int l3), none] []) {l0 : Nat} {l1 : Int32} {l2 : Int32} {l3 : Int32} {σ : Sg} (h : DX7_openShares_90 K4 l0 l1 l2 l3 σ = some (r, σ')) : Y E p l e (rmA 6 0 0) s m args below meth c (some (.int r)) σ' 0 0 5 0 0 σ 90 [some (.ref (ad E l0)), some (.int l1), some (.int l2), some (.int l3), none] [] := by
  unfold DX7_openShares_90 at h
  refine x_iinc (v := 1) (M := [some _, some _, some _, some _, none]) (pc := 90) C dX7_openShares_90 rfl (by decide) (by decide) rfl ?_
  refine x_goto (tgt := 4) (pc := 93) C dX7_openShares_93 (by decide) ?_
  exact x_sub (hK4 _ _ _ _ _ h) (xLe_s (xLe_s (xLe_s (xLe_s (xLe_n xLe_0)))))
def DX7_openShares_41 (K4 : Nat → Int32 → Int32 → Int32 → Sg → Option (Int32 × Sg)) : Nat → Nat → Int32 → Int32 → Int32 → Int32 → Sg → Option (Int32 × Sg)
  | 0, _, _, _, _, _, _ => none
  | n + 1, l0, l1, l2, l3, l4, σ =>
    chk (ckO σ 5 l0) <|
    chk (ckV (gR σ l0 6)) <|
    chk (ckO σ 4 (gR σ l0 6)) <|
    if (gI σ (gR σ l0 6) 2) ≤ l4 then
      DX7_openShares_90 K4 l0 l1 l2 l3 σ
    else
      chk (ckO σ 5 l0) <|
      chk (ckV (gR σ l0 6)) <|
      chk (ckO σ 4 (gR σ l0 6)) <|
      chk (ckV (gR σ (gR σ l0 6) 6)) <|
      chk (ckI σ (gR σ (gR σ l0 6) 6) l4) <|
      if (aI σ (gR σ (gR σ l0 6) 6) l4.toNatClampNeg) = l1 then
        chk (ckO σ 5 l0) <|
        chk (ckV (gR σ l0 6)) <|
        chk (ckO σ 4 (gR σ l0 6)) <|
        chk (ckV (gR σ (gR σ l0 6) 12)) <|
        chk (ckI σ (gR σ (gR σ l0 6) 12) l4) <|
        DX7_openShares_82 K4 (DX7_openShares_41 K4 n) l0 l1 l3 l4 l2 (aI σ (gR σ (gR σ l0 6) 12) l4.toNatClampNeg) σ
      else
        DX7_openShares_82 K4 (DX7_openShares_41 K4 n) l0 l1 l3 l4 l2 (0 : Int32) σ
theorem tX7_openShares_41 {r : Int32} {σ' : Sg} (C : Cx E p s m args meth c RX7 cX7_openShares 5) (hr : meth.sig.returnType = (some .int)) {K4 : Nat → Int32 → Int32 → Int32 → Sg → Option (Int32 × Sg)} (hK4 : ∀ (l0 : Nat) (l1 : Int32) (l2 : Int32) (l3 : Int32) (σ : Sg), K4 l0 l1 l2 l3 σ = some (r, σ') → Y E p l e (rmA 6 0 0) s m args below meth c (some (.int r)) σ' 0 0 5 0 0 σ 4 [some (.ref (ad E l0)), some (.int l1), some (.int l2), some (.int l3), none] []) : ∀ (n : Nat) (l0 : Nat) (l1 : Int32) (l2 : Int32) (l3 : Int32) (l4 : Int32) (σ : Sg) (h : DX7_openShares_41 K4 n l0 l1 l2 l3 l4 σ = some (r, σ')), Y E p l e (rmA 6 0 0) s m args below meth c (some (.int r)) σ' 0 0 5 0 0 σ 41 [some (.ref (ad E l0)), some (.int l1), some (.int l2), some (.int l3), some (.int l4)] [] := by
  intro n
  induction n with
  | zero => intro l0 l1 l2 l3 l4 σ h; cases h
  | succ n ih =>
    intro l0 l1 l2 l3 l4 σ h
    unfold DX7_openShares_41 at h
    refine x_iload (pc := 41) C dX7_openShares_41 rfl ?_
    refine x_aload_n (pc := 43) C dX7_openShares_43 rfl rfl ?_
    obtain ⟨k, h⟩ := chk_s h
    have k2 := k
    obtain ⟨k, h⟩ := chk_s h
    refine x_getR (pc := 44) C fX7_48 rfl k2 k dX7_openShares_44 ?_
    obtain ⟨k, h⟩ := chk_s h
    refine x_getI (pc := 47) C fX7_161 rfl k dX7_openShares_47 ?_
    refine x_icmp_ge (pc := 50) (tgt := 90) C dX7_openShares_50 (by decide) (fun q => ?_) (fun q => ?_)
    · rw [if_pos q] at h
      exact x_sub (tX7_openShares_90 C hr hK4 h) (xLe_s (xLe_s (xLe_s (xLe_s (xLe_n xLe_0)))))
    · rw [if_neg q] at h
      refine x_iload_n (pc := 53) C dX7_openShares_53 rfl rfl ?_
      refine x_aload_n (pc := 54) C dX7_openShares_54 rfl rfl ?_
      obtain ⟨k, h⟩ := chk_s h
      have k2 := k
      obtain ⟨k, h⟩ := chk_s h
      refine x_getR (pc := 55) C fX7_48 rfl k2 k dX7_openShares_55 ?_
      obtain ⟨k, h⟩ := chk_s h
      have k2 := k
      obtain ⟨k, h⟩ := chk_s h
      refine x_getR (pc := 58) C fX7_228 rfl k2 k dX7_openShares_58 ?_
      refine x_iload (pc := 61) C dX7_openShares_61 rfl ?_
      obtain ⟨k, h⟩ := chk_s h
      refine x_iald (pc := 63) C k dX7_openShares_63 ?_
      refine x_iload_n (pc := 64) C dX7_openShares_64 rfl rfl ?_
      refine x_icmp_ne (pc := 65) (tgt := 81) C dX7_openShares_65 (by decide) (fun q => ?_) (fun q => ?_)
      · rw [if_pos q] at h
        refine x_aload_n (pc := 68) C dX7_openShares_68 rfl rfl ?_
        obtain ⟨k, h⟩ := chk_s h
        have k2 := k
        obtain ⟨k, h⟩ := chk_s h
        refine x_getR (pc := 69) C fX7_48 rfl k2 k dX7_openShares_69 ?_
        obtain ⟨k, h⟩ := chk_s h
        have k2 := k
        obtain ⟨k, h⟩ := chk_s h
        refine x_getR (pc := 72) C fX7_225 rfl k2 k dX7_openShares_72 ?_
        refine x_iload (pc := 75) C dX7_openShares_75 rfl ?_
        obtain ⟨k, h⟩ := chk_s h
        refine x_iald (pc := 77) C k dX7_openShares_77 ?_
        refine x_goto (tgt := 82) (pc := 78) C dX7_openShares_78 (by decide) ?_
        exact x_sub (tX7_openShares_82 C hr hK4 ih h) (xLe_s (xLe_s (xLe_n (xLe_s (xLe_s xLe_0)))))
      · rw [if_neg q] at h
        refine x_iconst (v := 0) (pc := 81) C dX7_openShares_81 (by decide) ?_
        exact x_sub (tX7_openShares_82 C hr hK4 ih h) (xLe_s (xLe_s (xLe_n (xLe_s (xLe_s xLe_0)))))
def DX7_openShares_96 (l2 : Int32) (σ : Sg) : Option (Int32 × Sg) :=
  some (l2, σ)
theorem tX7_openShares_96 {r : Int32} {σ' : Sg} (C : Cx E p s m args meth c RX7 cX7_openShares 5) (hr : meth.sig.returnType = (some .int)) {l2 : Int32} {σ : Sg} (h : DX7_openShares_96 l2 σ = some (r, σ')) : Y E p l e (rmA 6 0 0) s m args below meth c (some (.int r)) σ' 0 0 5 0 0 σ 96 [none, none, some (.int l2), none, none] [] := by
  unfold DX7_openShares_96 at h
  refine x_iload_n (pc := 96) C dX7_openShares_96 rfl rfl ?_
  cases h
  exact x_iret C hr dX7_openShares_97
def DX7_openShares_4 : Nat → Nat → Int32 → Int32 → Int32 → Sg → Option (Int32 × Sg)
  | 0, _, _, _, _, _ => none
  | n + 1, l0, l1, l2, l3, σ =>
    chk (ckO σ 5 l0) <|
    chk (ckV (gR σ l0 2)) <|
    chk (ckO σ 0 (gR σ l0 2)) <|
    if (gI σ (gR σ l0 2) 9) ≤ l3 then
      DX7_openShares_96 l2 σ
    else
      chk (ckO σ 5 l0) <|
      chk (ckV (gR σ l0 5)) <|
      chk (ckO σ 1 (gR σ l0 5)) <|
      chk (ckV (gR σ (gR σ l0 5) 2)) <|
      chk (ckZ σ (gR σ (gR σ l0 5) 2) l3) <|
      if (aI σ (gR σ (gR σ l0 5) 2) l3.toNatClampNeg) = 0 then
        chk (ckO σ 5 l0) <|
        bnd (DX7_prorateNow l0 l3 σ) fun _ σ1 =>
        chk (ckO σ1 5 l0) <|
        chk (ckV (gR σ1 l0 6)) <|
        chk (ckO σ1 4 (gR σ1 l0 6)) <|
        DX7_openShares_41 (DX7_openShares_4 n) FU l0 l1 l2 l3 (gI σ1 (gR σ1 l0 6) 3) σ1
      else
        DX7_openShares_90 (DX7_openShares_4 n) l0 l1 l2 l3 σ
theorem tX7_openShares_4 {r : Int32} {σ' : Sg} (C : Cx E p s m args meth c RX7 cX7_openShares 5) (hr : meth.sig.returnType = (some .int)) : ∀ (n : Nat) (l0 : Nat) (l1 : Int32) (l2 : Int32) (l3 : Int32) (σ : Sg) (h : DX7_openShares_4 n l0 l1 l2 l3 σ = some (r, σ')), Y E p l e (rmA 6 0 0) s m args below meth c (some (.int r)) σ' 0 0 5 0 0 σ 4 [some (.ref (ad E l0)), some (.int l1), some (.int l2), some (.int l3), none] [] := by
  intro n
  induction n with
  | zero => intro l0 l1 l2 l3 σ h; cases h
  | succ n ih =>
    intro l0 l1 l2 l3 σ h
    unfold DX7_openShares_4 at h
    refine x_iload_n (pc := 4) C dX7_openShares_4 rfl rfl ?_
    refine x_aload_n (pc := 5) C dX7_openShares_5 rfl rfl ?_
    obtain ⟨k, h⟩ := chk_s h
    have k2 := k
    obtain ⟨k, h⟩ := chk_s h
    refine x_getR (pc := 6) C fX7_20 rfl k2 k dX7_openShares_6 ?_
    obtain ⟨k, h⟩ := chk_s h
    refine x_getI (pc := 9) C fX7_100 rfl k dX7_openShares_9 ?_
    refine x_icmp_ge (pc := 12) (tgt := 96) C dX7_openShares_12 (by decide) (fun q => ?_) (fun q => ?_)
    · rw [if_pos q] at h
      exact x_sub (tX7_openShares_96 C hr h) (xLe_n (xLe_n (xLe_s (xLe_n (xLe_n xLe_0)))))
    · rw [if_neg q] at h
      refine x_aload_n (pc := 15) C dX7_openShares_15 rfl rfl ?_
      obtain ⟨k, h⟩ := chk_s h
      have k2 := k
      obtain ⟨k, h⟩ := chk_s h
      refine x_getR (pc := 16) C fX7_39 rfl k2 k dX7_openShares_16 ?_
      obtain ⟨k, h⟩ := chk_s h
      have k2 := k
      obtain ⟨k, h⟩ := chk_s h
      refine x_getR (pc := 19) C fX7_181 rfl k2 k dX7_openShares_19 ?_
      refine x_iload_n (pc := 22) C dX7_openShares_22 rfl rfl ?_
      obtain ⟨k, h⟩ := chk_s h
      refine x_zald (pc := 23) C k dX7_openShares_23 ?_
      refine x_if_ne (pc := 24) (tgt := 90) C dX7_openShares_24 (by decide) (fun q => ?_) (fun q => ?_)
      · rw [if_pos q] at h
        refine x_aload_n (pc := 27) C dX7_openShares_27 rfl rfl ?_
        refine x_iload_n (pc := 28) C dX7_openShares_28 rfl rfl ?_
        obtain ⟨k, h⟩ := chk_s h
        have k2 := k
        obtain ⟨u0, σ1, k, h⟩ := bnd_s h
        refine x_callV0 (pc := 29) C (mX7_prorateNow E l k) cl5 k2 cX7_158 nX7_prorateNow sX7_prorateNow rfl rfl (Nat.le_of_ble_eq_true rfl) ⟨Nat.le_of_ble_eq_true rfl, Nat.le_of_ble_eq_true rfl, Nat.le_of_ble_eq_true rfl, Nat.le_of_ble_eq_true rfl⟩ dX7_openShares_29 ?_
        refine x_aload_n (pc := 32) C dX7_openShares_32 rfl rfl ?_
        obtain ⟨k, h⟩ := chk_s h
        have k2 := k
        obtain ⟨k, h⟩ := chk_s h
        refine x_getR (pc := 33) C fX7_48 rfl k2 k dX7_openShares_33 ?_
        obtain ⟨k, h⟩ := chk_s h
        refine x_getI (pc := 36) C fX7_329 rfl k dX7_openShares_36 ?_
        refine x_istore (M := [some _, some _, some _, some _, some _]) (pc := 39) C dX7_openShares_39 (by decide) rfl ?_
        exact x_sub (tX7_openShares_41 C hr ih FU _ _ _ _ _ _ h) (xLe_s (xLe_s (xLe_s (xLe_s (xLe_s xLe_0)))))
      · rw [if_neg q] at h
        exact x_sub (tX7_openShares_90 C hr ih h) (xLe_s (xLe_s (xLe_s (xLe_s (xLe_n xLe_0)))))
def DX7_openShares (l0 : Nat) (l1 : Int32) (σ : Sg) : Option (Int32 × Sg) :=
  DX7_openShares_4 FU l0 l1 (0 : Int32) (0 : Int32) σ
theorem mX7_openShares (E : Ev) (l : Launch) {l0 : Nat} {l1 : Int32} {σ : Sg} {r : Int32} {σ' : Sg} (h : DX7_openShares l0 l1 σ = some (r, σ')) : Mt E l yX7_openShares cX7_openShares 5 (some .int) 6 0 0 [.ref (ad E l0), .int l1] σ (some (.int r)) σ' := by
  refine Mt.ofX (by decide) (Nat.le_of_ble_eq_true rfl) (L0 := [some (.ref (ad E l0)), some (.int l1), none, none, none]) (xEntN_ok [.ref (ad E l0), .int l1] 5) (fun p e s m args below meth c C hr hn => ?_)
  unfold DX7_openShares at h
  refine x_iconst (v := 0) (pc := 0) C dX7_openShares_0 (by decide) ?_
  refine x_istore_n (M := [some _, some _, some _, none, none]) (pc := 1) C dX7_openShares_1 rfl (by decide) rfl ?_
  refine x_iconst (v := 0) (pc := 2) C dX7_openShares_2 (by decide) ?_
  refine x_istore_n (M := [some _, some _, some _, some _, none]) (pc := 3) C dX7_openShares_3 rfl (by decide) rfl ?_
  exact x_sub (tX7_openShares_4 C hr FU _ _ _ _ _ h) (xLe_s (xLe_s (xLe_s (xLe_s (xLe_n xLe_0)))))
def DX7_flownMiles_63 (K4 : Nat → Int32 → Int32 → Int32 → Sg → Option (Int32 × Sg)) (K18 : Nat → Int32 → Int32 → Int32 → Int32 → Sg → Option (Int32 × Sg)) (l0 : Nat) (l1 : Int32) (l3 : Int32) (l4 : Int32) (s0 : Int32) (s1 : Int32) (σ : Sg) : Option (Int32 × Sg) :=
  K18 l0 l1 (s0 + s1) l3 (l4 + (1 : Int32)) σ
theorem tX7_flownMiles_63 {r : Int32} {σ' : Sg} (C : Cx E p s m args meth c RX7 cX7_flownMiles 5) (hr : meth.sig.returnType = (some .int)) {K4 : Nat → Int32 → Int32 → Int32 → Sg → Option (Int32 × Sg)} (hK4 : ∀ (l0 : Nat) (l1 : Int32) (l2 : Int32) (l3 : Int32) (σ : Sg), K4 l0 l1 l2 l3 σ = some (r, σ') → Y E p l e (rmA 2 0 0) s m args below meth c (some (.int r)) σ' 0 0 5 0 0 σ 4 [some (.ref (ad E l0)), some (.int l1), some (.int l2), some (.int l3), none] []) {K18 : Nat → Int32 → Int32 → Int32 → Int32 → Sg → Option (Int32 × Sg)} (hK18 : ∀ (l0 : Nat) (l1 : Int32) (l2 : Int32) (l3 : Int32) (l4 : Int32) (σ : Sg), K18 l0 l1 l2 l3 l4 σ = some (r, σ') → Y E p l e (rmA 2 0 0) s m args below meth c (some (.int r)) σ' 0 0 5 0 0 σ 18 [some (.ref (ad E l0)), some (.int l1), some (.int l2), some (.int l3), some (.int l4)] []) {l0 : Nat} {l1 : Int32} {l3 : Int32} {l4 : Int32} {s0 : Int32} {s1 : Int32} {σ : Sg} (h : DX7_flownMiles_63 K4 K18 l0 l1 l3 l4 s0 s1 σ = some (r, σ')) : Y E p l e (rmA 2 0 0) s m args below meth c (some (.int r)) σ' 0 0 5 0 0 σ 63 [some (.ref (ad E l0)), some (.int l1), none, some (.int l3), some (.int l4)] [.int s1, .int s0] := by
  unfold DX7_flownMiles_63 at h
  refine x_iadd (pc := 63) C dX7_flownMiles_63 ?_
  refine x_istore_n (M := [some _, some _, some _, some _, some _]) (pc := 64) C dX7_flownMiles_64 rfl (by decide) rfl ?_
  refine x_iinc (v := 1) (M := [some _, some _, some _, some _, some _]) (pc := 65) C dX7_flownMiles_65 rfl (by decide) (by decide) rfl ?_
  refine x_goto (tgt := 18) (pc := 68) C dX7_flownMiles_68 (by decide) ?_
  exact x_sub (hK18 _ _ _ _ _ _ h) (xLe_s (xLe_s (xLe_s (xLe_s (xLe_s xLe_0)))))
def DX7_flownMiles_71 (K4 : Nat → Int32 → Int32 → Int32 → Sg → Option (Int32 × Sg)) (l0 : Nat) (l1 : Int32) (l2 : Int32) (l3 : Int32) (σ : Sg) : Option (Int32 × Sg) :=
  K4 l0 l1 l2 (l3 + (1 : Int32)) σ
theorem tX7_flownMiles_71 {r : Int32} {σ' : Sg} (C : Cx E p s m args meth c RX7 cX7_flownMiles 5) (hr : meth.sig.returnType = (some .int)) {K4 : Nat → Int32 → Int32 → Int32 → Sg → Option (Int32 × Sg)} (hK4 : ∀ (l0 : Nat) (l1 : Int32) (l2 : Int32) (l3 : Int32) (σ : Sg), K4 l0 l1 l2 l3 σ = some (r, σ') → Y E p l e (rmA 2 0 0) s m args below meth c (some (.int r)) σ' 0 0 5 0 0 σ 4 [some (.ref (ad E l0)), some (.int l1), some (.int l2), some (.int l3), none] []) {l0 : Nat} {l1 : Int32} {l2 : Int32} {l3 : Int32} {σ : Sg} (h : DX7_flownMiles_71 K4 l0 l1 l2 l3 σ = some (r, σ')) : Y E p l e (rmA 2 0 0) s m args below meth c (some (.int r)) σ' 0 0 5 0 0 σ 71 [some (.ref (ad E l0)), some (.int l1), some (.int l2), some (.int l3), none] [] := by
  unfold DX7_flownMiles_71 at h
  refine x_iinc (v := 1) (M := [some _, some _, some _, some _, none]) (pc := 71) C dX7_flownMiles_71 rfl (by decide) (by decide) rfl ?_
  refine x_goto (tgt := 4) (pc := 74) C dX7_flownMiles_74 (by decide) ?_
  exact x_sub (hK4 _ _ _ _ _ h) (xLe_s (xLe_s (xLe_s (xLe_s (xLe_n xLe_0)))))
def DX7_flownMiles_18 (K4 : Nat → Int32 → Int32 → Int32 → Sg → Option (Int32 × Sg)) : Nat → Nat → Int32 → Int32 → Int32 → Int32 → Sg → Option (Int32 × Sg)
  | 0, _, _, _, _, _, _ => none
  | n + 1, l0, l1, l2, l3, l4, σ =>
    chk (ckO σ 5 l0) <|
    chk (ckV (gR σ l0 5)) <|
    chk (ckO σ 1 (gR σ l0 5)) <|
    chk (ckV (gR σ (gR σ l0 5) 1)) <|
    chk (ckI σ (gR σ (gR σ l0 5) 1) l3) <|
    if (aI σ (gR σ (gR σ l0 5) 1) l3.toNatClampNeg) ≤ l4 then
      DX7_flownMiles_71 K4 l0 l1 l2 l3 σ
    else
      chk (ckO σ 5 l0) <|
      chk (ckV (gR σ l0 5)) <|
      chk (ckO σ 1 (gR σ l0 5)) <|
      chk (ckV (gR σ (gR σ l0 5) 3)) <|
      chk (ckG σ (gR σ (gR σ l0 5) 3) l3) <|
      chk (ckR σ (gR σ (gR σ l0 5) 3) l3.toNatClampNeg l4) <|
      if (aG σ (gR σ (gR σ l0 5) 3) l3.toNatClampNeg l4.toNatClampNeg) = l1 then
        chk (ckO σ 5 l0) <|
        chk (ckV (gR σ l0 2)) <|
        chk (ckO σ 0 (gR σ l0 2)) <|
        bnd (DX1_milesOf (gR σ l0 2) l3 l4 σ) fun v1 σ2 =>
        DX7_flownMiles_63 K4 (DX7_flownMiles_18 K4 n) l0 l1 l3 l4 l2 v1 σ2
      else
        DX7_flownMiles_63 K4 (DX7_flownMiles_18 K4 n) l0 l1 l3 l4 l2 (0 : Int32) σ
theorem tX7_flownMiles_18 {r : Int32} {σ' : Sg} (C : Cx E p s m args meth c RX7 cX7_flownMiles 5) (hr : meth.sig.returnType = (some .int)) {K4 : Nat → Int32 → Int32 → Int32 → Sg → Option (Int32 × Sg)} (hK4 : ∀ (l0 : Nat) (l1 : Int32) (l2 : Int32) (l3 : Int32) (σ : Sg), K4 l0 l1 l2 l3 σ = some (r, σ') → Y E p l e (rmA 2 0 0) s m args below meth c (some (.int r)) σ' 0 0 5 0 0 σ 4 [some (.ref (ad E l0)), some (.int l1), some (.int l2), some (.int l3), none] []) : ∀ (n : Nat) (l0 : Nat) (l1 : Int32) (l2 : Int32) (l3 : Int32) (l4 : Int32) (σ : Sg) (h : DX7_flownMiles_18 K4 n l0 l1 l2 l3 l4 σ = some (r, σ')), Y E p l e (rmA 2 0 0) s m args below meth c (some (.int r)) σ' 0 0 5 0 0 σ 18 [some (.ref (ad E l0)), some (.int l1), some (.int l2), some (.int l3), some (.int l4)] [] := by
  intro n
  induction n with
  | zero => intro l0 l1 l2 l3 l4 σ h; cases h
  | succ n ih =>
    intro l0 l1 l2 l3 l4 σ h
    unfold DX7_flownMiles_18 at h
    refine x_iload (pc := 18) C dX7_flownMiles_18 rfl ?_
    refine x_aload_n (pc := 20) C dX7_flownMiles_20 rfl rfl ?_
    obtain ⟨k, h⟩ := chk_s h
    have k2 := k
    obtain ⟨k, h⟩ := chk_s h
    refine x_getR (pc := 21) C fX7_39 rfl k2 k dX7_flownMiles_21 ?_
    obtain ⟨k, h⟩ := chk_s h
    have k2 := k
    obtain ⟨k, h⟩ := chk_s h
    refine x_getR (pc := 24) C fX7_175 rfl k2 k dX7_flownMiles_24 ?_
    refine x_iload_n (pc := 27) C dX7_flownMiles_27 rfl rfl ?_
    obtain ⟨k, h⟩ := chk_s h
    refine x_iald (pc := 28) C k dX7_flownMiles_28 ?_
    refine x_icmp_ge (pc := 29) (tgt := 71) C dX7_flownMiles_29 (by decide) (fun q => ?_) (fun q => ?_)
    · rw [if_pos q] at h
      exact x_sub (tX7_flownMiles_71 C hr hK4 h) (xLe_s (xLe_s (xLe_s (xLe_s (xLe_n xLe_0)))))
    · rw [if_neg q] at h
      refine x_iload_n (pc := 32) C dX7_flownMiles_32 rfl rfl ?_
      refine x_aload_n (pc := 33) C dX7_flownMiles_33 rfl rfl ?_
      obtain ⟨k, h⟩ := chk_s h
      have k2 := k
      obtain ⟨k, h⟩ := chk_s h
      refine x_getR (pc := 34) C fX7_39 rfl k2 k dX7_flownMiles_34 ?_
      obtain ⟨k, h⟩ := chk_s h
      have k2 := k
      obtain ⟨k, h⟩ := chk_s h
      refine x_getR (pc := 37) C fX7_200 rfl k2 k dX7_flownMiles_37 ?_
      refine x_iload_n (pc := 40) C dX7_flownMiles_40 rfl rfl ?_
      obtain ⟨k, h⟩ := chk_s h
      refine x_gald (pc := 41) C k dX7_flownMiles_41 ?_
      refine x_iload (pc := 42) C dX7_flownMiles_42 rfl ?_
      obtain ⟨k, h⟩ := chk_s h
      refine x_rald (pc := 44) C k dX7_flownMiles_44 ?_
      refine x_iload_n (pc := 45) C dX7_flownMiles_45 rfl rfl ?_
      refine x_icmp_ne (pc := 46) (tgt := 62) C dX7_flownMiles_46 (by decide) (fun q => ?_) (fun q => ?_)
      · rw [if_pos q] at h
        refine x_aload_n (pc := 49) C dX7_flownMiles_49 rfl rfl ?_
        obtain ⟨k, h⟩ := chk_s h
        have k2 := k
        obtain ⟨k, h⟩ := chk_s h
        refine x_getR (pc := 50) C fX7_20 rfl k2 k dX7_flownMiles_50 ?_
        refine x_iload_n (pc := 53) C dX7_flownMiles_53 rfl rfl ?_
        refine x_iload (pc := 54) C dX7_flownMiles_54 rfl ?_
        obtain ⟨k, h⟩ := chk_s h
        have k2 := k
        obtain ⟨v1, σ2, k, h⟩ := bnd_s h
        refine x_callV1 (pc := 56) C (mX1_milesOf E l k) cl0 k2 cX7_191 nX1_milesOf sX1_milesOf rfl rfl (Nat.le_of_ble_eq_true rfl) ⟨Nat.le_of_ble_eq_true rfl, Nat.le_of_ble_eq_true rfl, Nat.le_of_ble_eq_true rfl, Nat.le_of_ble_eq_true rfl⟩ dX7_flownMiles_56 ?_
        refine x_goto (tgt := 63) (pc := 59) C dX7_flownMiles_59 (by decide) ?_
        exact x_sub (tX7_flownMiles_63 C hr hK4 ih h) (xLe_s (xLe_s (xLe_n (xLe_s (xLe_s xLe_0)))))
      · rw [if_neg q] at h
        refine x_iconst (v := 0) (pc := 62) C dX7_flownMiles_62 (by decide) ?_
        exact x_sub (tX7_flownMiles_63 C hr hK4 ih h) (xLe_s (xLe_s (xLe_n (xLe_s (xLe_s xLe_0)))))
def DX7_flownMiles_77 (l2 : Int32) (σ : Sg) : Option (Int32 × Sg) :=
  some (l2, σ)
theorem tX7_flownMiles_77 {r : Int32} {σ' : Sg} (C : Cx E p s m args meth c RX7 cX7_flownMiles 5) (hr : meth.sig.returnType = (some .int)) {l2 : Int32} {σ : Sg} (h : DX7_flownMiles_77 l2 σ = some (r, σ')) : Y E p l e (rmA 2 0 0) s m args below meth c (some (.int r)) σ' 0 0 5 0 0 σ 77 [none, none, some (.int l2), none, none] [] := by
  unfold DX7_flownMiles_77 at h
  refine x_iload_n (pc := 77) C dX7_flownMiles_77 rfl rfl ?_
  cases h
  exact x_iret C hr dX7_flownMiles_78
def DX7_flownMiles_4 : Nat → Nat → Int32 → Int32 → Int32 → Sg → Option (Int32 × Sg)
  | 0, _, _, _, _, _ => none
  | n + 1, l0, l1, l2, l3, σ =>
    chk (ckO σ 5 l0) <|
    chk (ckV (gR σ l0 2)) <|
    chk (ckO σ 0 (gR σ l0 2)) <|
    if (gI σ (gR σ l0 2) 9) ≤ l3 then
      DX7_flownMiles_77 l2 σ
    else
      DX7_flownMiles_18 (DX7_flownMiles_4 n) FU l0 l1 l2 l3 (0 : Int32) σ
theorem tX7_flownMiles_4 {r : Int32} {σ' : Sg} (C : Cx E p s m args meth c RX7 cX7_flownMiles 5) (hr : meth.sig.returnType = (some .int)) : ∀ (n : Nat) (l0 : Nat) (l1 : Int32) (l2 : Int32) (l3 : Int32) (σ : Sg) (h : DX7_flownMiles_4 n l0 l1 l2 l3 σ = some (r, σ')), Y E p l e (rmA 2 0 0) s m args below meth c (some (.int r)) σ' 0 0 5 0 0 σ 4 [some (.ref (ad E l0)), some (.int l1), some (.int l2), some (.int l3), none] [] := by
  intro n
  induction n with
  | zero => intro l0 l1 l2 l3 σ h; cases h
  | succ n ih =>
    intro l0 l1 l2 l3 σ h
    unfold DX7_flownMiles_4 at h
    refine x_iload_n (pc := 4) C dX7_flownMiles_4 rfl rfl ?_
    refine x_aload_n (pc := 5) C dX7_flownMiles_5 rfl rfl ?_
    obtain ⟨k, h⟩ := chk_s h
    have k2 := k
    obtain ⟨k, h⟩ := chk_s h
    refine x_getR (pc := 6) C fX7_20 rfl k2 k dX7_flownMiles_6 ?_
    obtain ⟨k, h⟩ := chk_s h
    refine x_getI (pc := 9) C fX7_100 rfl k dX7_flownMiles_9 ?_
    refine x_icmp_ge (pc := 12) (tgt := 77) C dX7_flownMiles_12 (by decide) (fun q => ?_) (fun q => ?_)
    · rw [if_pos q] at h
      exact x_sub (tX7_flownMiles_77 C hr h) (xLe_n (xLe_n (xLe_s (xLe_n (xLe_n xLe_0)))))
    · rw [if_neg q] at h
      refine x_iconst (v := 0) (pc := 15) C dX7_flownMiles_15 (by decide) ?_
      refine x_istore (M := [some _, some _, some _, some _, some _]) (pc := 16) C dX7_flownMiles_16 (by decide) rfl ?_
      exact x_sub (tX7_flownMiles_18 C hr ih FU _ _ _ _ _ _ h) (xLe_s (xLe_s (xLe_s (xLe_s (xLe_s xLe_0)))))
def DX7_flownMiles (l0 : Nat) (l1 : Int32) (σ : Sg) : Option (Int32 × Sg) :=
  DX7_flownMiles_4 FU l0 l1 (0 : Int32) (0 : Int32) σ
theorem mX7_flownMiles (E : Ev) (l : Launch) {l0 : Nat} {l1 : Int32} {σ : Sg} {r : Int32} {σ' : Sg} (h : DX7_flownMiles l0 l1 σ = some (r, σ')) : Mt E l yX7_flownMiles cX7_flownMiles 5 (some .int) 2 0 0 [.ref (ad E l0), .int l1] σ (some (.int r)) σ' := by
  refine Mt.ofX (by decide) (Nat.le_of_ble_eq_true rfl) (L0 := [some (.ref (ad E l0)), some (.int l1), none, none, none]) (xEntN_ok [.ref (ad E l0), .int l1] 5) (fun p e s m args below meth c C hr hn => ?_)
  unfold DX7_flownMiles at h
  refine x_iconst (v := 0) (pc := 0) C dX7_flownMiles_0 (by decide) ?_
  refine x_istore_n (M := [some _, some _, some _, none, none]) (pc := 1) C dX7_flownMiles_1 rfl (by decide) rfl ?_
  refine x_iconst (v := 0) (pc := 2) C dX7_flownMiles_2 (by decide) ?_
  refine x_istore_n (M := [some _, some _, some _, some _, none]) (pc := 3) C dX7_flownMiles_3 rfl (by decide) rfl ?_
  exact x_sub (tX7_flownMiles_4 C hr FU _ _ _ _ _ h) (xLe_s (xLe_s (xLe_s (xLe_s (xLe_n xLe_0)))))
def DX7_flownCoupons_54 (K4 : Nat → Int32 → Int32 → Int32 → Sg → Option (Int32 × Sg)) (K18 : Nat → Int32 → Int32 → Int32 → Int32 → Sg → Option (Int32 × Sg)) (l0 : Nat) (l1 : Int32) (l3 : Int32) (l4 : Int32) (s0 : Int32) (s1 : Int32) (σ : Sg) : Option (Int32 × Sg) :=
  K18 l0 l1 (s0 + s1) l3 (l4 + (1 : Int32)) σ
theorem tX7_flownCoupons_54 {r : Int32} {σ' : Sg} (C : Cx E p s m args meth c RX7 cX7_flownCoupons 5) (hr : meth.sig.returnType = (some .int)) {K4 : Nat → Int32 → Int32 → Int32 → Sg → Option (Int32 × Sg)} (hK4 : ∀ (l0 : Nat) (l1 : Int32) (l2 : Int32) (l3 : Int32) (σ : Sg), K4 l0 l1 l2 l3 σ = some (r, σ') → Y E p l e (rmA 1 0 0) s m args below meth c (some (.int r)) σ' 0 0 5 0 0 σ 4 [some (.ref (ad E l0)), some (.int l1), some (.int l2), some (.int l3), none] []) {K18 : Nat → Int32 → Int32 → Int32 → Int32 → Sg → Option (Int32 × Sg)} (hK18 : ∀ (l0 : Nat) (l1 : Int32) (l2 : Int32) (l3 : Int32) (l4 : Int32) (σ : Sg), K18 l0 l1 l2 l3 l4 σ = some (r, σ') → Y E p l e (rmA 1 0 0) s m args below meth c (some (.int r)) σ' 0 0 5 0 0 σ 18 [some (.ref (ad E l0)), some (.int l1), some (.int l2), some (.int l3), some (.int l4)] []) {l0 : Nat} {l1 : Int32} {l3 : Int32} {l4 : Int32} {s0 : Int32} {s1 : Int32} {σ : Sg} (h : DX7_flownCoupons_54 K4 K18 l0 l1 l3 l4 s0 s1 σ = some (r, σ')) : Y E p l e (rmA 1 0 0) s m args below meth c (some (.int r)) σ' 0 0 5 0 0 σ 54 [some (.ref (ad E l0)), some (.int l1), none, some (.int l3), some (.int l4)] [.int s1, .int s0] := by
  unfold DX7_flownCoupons_54 at h
  refine x_iadd (pc := 54) C dX7_flownCoupons_54 ?_
  refine x_istore_n (M := [some _, some _, some _, some _, some _]) (pc := 55) C dX7_flownCoupons_55 rfl (by decide) rfl ?_
  refine x_iinc (v := 1) (M := [some _, some _, some _, some _, some _]) (pc := 56) C dX7_flownCoupons_56 rfl (by decide) (by decide) rfl ?_
  refine x_goto (tgt := 18) (pc := 59) C dX7_flownCoupons_59 (by decide) ?_
  exact x_sub (hK18 _ _ _ _ _ _ h) (xLe_s (xLe_s (xLe_s (xLe_s (xLe_s xLe_0)))))
def DX7_flownCoupons_62 (K4 : Nat → Int32 → Int32 → Int32 → Sg → Option (Int32 × Sg)) (l0 : Nat) (l1 : Int32) (l2 : Int32) (l3 : Int32) (σ : Sg) : Option (Int32 × Sg) :=
  K4 l0 l1 l2 (l3 + (1 : Int32)) σ
theorem tX7_flownCoupons_62 {r : Int32} {σ' : Sg} (C : Cx E p s m args meth c RX7 cX7_flownCoupons 5) (hr : meth.sig.returnType = (some .int)) {K4 : Nat → Int32 → Int32 → Int32 → Sg → Option (Int32 × Sg)} (hK4 : ∀ (l0 : Nat) (l1 : Int32) (l2 : Int32) (l3 : Int32) (σ : Sg), K4 l0 l1 l2 l3 σ = some (r, σ') → Y E p l e (rmA 1 0 0) s m args below meth c (some (.int r)) σ' 0 0 5 0 0 σ 4 [some (.ref (ad E l0)), some (.int l1), some (.int l2), some (.int l3), none] []) {l0 : Nat} {l1 : Int32} {l2 : Int32} {l3 : Int32} {σ : Sg} (h : DX7_flownCoupons_62 K4 l0 l1 l2 l3 σ = some (r, σ')) : Y E p l e (rmA 1 0 0) s m args below meth c (some (.int r)) σ' 0 0 5 0 0 σ 62 [some (.ref (ad E l0)), some (.int l1), some (.int l2), some (.int l3), none] [] := by
  unfold DX7_flownCoupons_62 at h
  refine x_iinc (v := 1) (M := [some _, some _, some _, some _, none]) (pc := 62) C dX7_flownCoupons_62 rfl (by decide) (by decide) rfl ?_
  refine x_goto (tgt := 4) (pc := 65) C dX7_flownCoupons_65 (by decide) ?_
  exact x_sub (hK4 _ _ _ _ _ h) (xLe_s (xLe_s (xLe_s (xLe_s (xLe_n xLe_0)))))
def DX7_flownCoupons_18 (K4 : Nat → Int32 → Int32 → Int32 → Sg → Option (Int32 × Sg)) : Nat → Nat → Int32 → Int32 → Int32 → Int32 → Sg → Option (Int32 × Sg)
  | 0, _, _, _, _, _, _ => none
  | n + 1, l0, l1, l2, l3, l4, σ =>
    chk (ckO σ 5 l0) <|
    chk (ckV (gR σ l0 5)) <|
    chk (ckO σ 1 (gR σ l0 5)) <|
    chk (ckV (gR σ (gR σ l0 5) 1)) <|
    chk (ckI σ (gR σ (gR σ l0 5) 1) l3) <|
    if (aI σ (gR σ (gR σ l0 5) 1) l3.toNatClampNeg) ≤ l4 then
      DX7_flownCoupons_62 K4 l0 l1 l2 l3 σ
    else
      chk (ckO σ 5 l0) <|
      chk (ckV (gR σ l0 5)) <|
      chk (ckO σ 1 (gR σ l0 5)) <|
      chk (ckV (gR σ (gR σ l0 5) 3)) <|
      chk (ckG σ (gR σ (gR σ l0 5) 3) l3) <|
      chk (ckR σ (gR σ (gR σ l0 5) 3) l3.toNatClampNeg l4) <|
      if (aG σ (gR σ (gR σ l0 5) 3) l3.toNatClampNeg l4.toNatClampNeg) = l1 then
        DX7_flownCoupons_54 K4 (DX7_flownCoupons_18 K4 n) l0 l1 l3 l4 l2 (1 : Int32) σ
      else
        DX7_flownCoupons_54 K4 (DX7_flownCoupons_18 K4 n) l0 l1 l3 l4 l2 (0 : Int32) σ
theorem tX7_flownCoupons_18 {r : Int32} {σ' : Sg} (C : Cx E p s m args meth c RX7 cX7_flownCoupons 5) (hr : meth.sig.returnType = (some .int)) {K4 : Nat → Int32 → Int32 → Int32 → Sg → Option (Int32 × Sg)} (hK4 : ∀ (l0 : Nat) (l1 : Int32) (l2 : Int32) (l3 : Int32) (σ : Sg), K4 l0 l1 l2 l3 σ = some (r, σ') → Y E p l e (rmA 1 0 0) s m args below meth c (some (.int r)) σ' 0 0 5 0 0 σ 4 [some (.ref (ad E l0)), some (.int l1), some (.int l2), some (.int l3), none] []) : ∀ (n : Nat) (l0 : Nat) (l1 : Int32) (l2 : Int32) (l3 : Int32) (l4 : Int32) (σ : Sg) (h : DX7_flownCoupons_18 K4 n l0 l1 l2 l3 l4 σ = some (r, σ')), Y E p l e (rmA 1 0 0) s m args below meth c (some (.int r)) σ' 0 0 5 0 0 σ 18 [some (.ref (ad E l0)), some (.int l1), some (.int l2), some (.int l3), some (.int l4)] [] := by
  intro n
  induction n with
  | zero => intro l0 l1 l2 l3 l4 σ h; cases h
  | succ n ih =>
    intro l0 l1 l2 l3 l4 σ h
    unfold DX7_flownCoupons_18 at h
    refine x_iload (pc := 18) C dX7_flownCoupons_18 rfl ?_
    refine x_aload_n (pc := 20) C dX7_flownCoupons_20 rfl rfl ?_
    obtain ⟨k, h⟩ := chk_s h
    have k2 := k
    obtain ⟨k, h⟩ := chk_s h
    refine x_getR (pc := 21) C fX7_39 rfl k2 k dX7_flownCoupons_21 ?_
    obtain ⟨k, h⟩ := chk_s h
    have k2 := k
    obtain ⟨k, h⟩ := chk_s h
    refine x_getR (pc := 24) C fX7_175 rfl k2 k dX7_flownCoupons_24 ?_
    refine x_iload_n (pc := 27) C dX7_flownCoupons_27 rfl rfl ?_
    obtain ⟨k, h⟩ := chk_s h
    refine x_iald (pc := 28) C k dX7_flownCoupons_28 ?_
    refine x_icmp_ge (pc := 29) (tgt := 62) C dX7_flownCoupons_29 (by decide) (fun q => ?_) (fun q => ?_)
    · rw [if_pos q] at h
      exact x_sub (tX7_flownCoupons_62 C hr hK4 h) (xLe_s (xLe_s (xLe_s (xLe_s (xLe_n xLe_0)))))
    · rw [if_neg q] at h
      refine x_iload_n (pc := 32) C dX7_flownCoupons_32 rfl rfl ?_
      refine x_aload_n (pc := 33) C dX7_flownCoupons_33 rfl rfl ?_
      obtain ⟨k, h⟩ := chk_s h
      have k2 := k
      obtain ⟨k, h⟩ := chk_s h
      refine x_getR (pc := 34) C fX7_39 rfl k2 k dX7_flownCoupons_34 ?_
      obtain ⟨k, h⟩ := chk_s h
      have k2 := k
      obtain ⟨k, h⟩ := chk_s h
      refine x_getR (pc := 37) C fX7_200 rfl k2 k dX7_flownCoupons_37 ?_
      refine x_iload_n (pc := 40) C dX7_flownCoupons_40 rfl rfl ?_
      obtain ⟨k, h⟩ := chk_s h
      refine x_gald (pc := 41) C k dX7_flownCoupons_41 ?_
      refine x_iload (pc := 42) C dX7_flownCoupons_42 rfl ?_
      obtain ⟨k, h⟩ := chk_s h
      refine x_rald (pc := 44) C k dX7_flownCoupons_44 ?_
      refine x_iload_n (pc := 45) C dX7_flownCoupons_45 rfl rfl ?_
      refine x_icmp_ne (pc := 46) (tgt := 53) C dX7_flownCoupons_46 (by decide) (fun q => ?_) (fun q => ?_)
      · rw [if_pos q] at h
        refine x_iconst (v := 1) (pc := 49) C dX7_flownCoupons_49 (by decide) ?_
        refine x_goto (tgt := 54) (pc := 50) C dX7_flownCoupons_50 (by decide) ?_
        exact x_sub (tX7_flownCoupons_54 C hr hK4 ih h) (xLe_s (xLe_s (xLe_n (xLe_s (xLe_s xLe_0)))))
      · rw [if_neg q] at h
        refine x_iconst (v := 0) (pc := 53) C dX7_flownCoupons_53 (by decide) ?_
        exact x_sub (tX7_flownCoupons_54 C hr hK4 ih h) (xLe_s (xLe_s (xLe_n (xLe_s (xLe_s xLe_0)))))
def DX7_flownCoupons_68 (l2 : Int32) (σ : Sg) : Option (Int32 × Sg) :=
  some (l2, σ)
theorem tX7_flownCoupons_68 {r : Int32} {σ' : Sg} (C : Cx E p s m args meth c RX7 cX7_flownCoupons 5) (hr : meth.sig.returnType = (some .int)) {l2 : Int32} {σ : Sg} (h : DX7_flownCoupons_68 l2 σ = some (r, σ')) : Y E p l e (rmA 1 0 0) s m args below meth c (some (.int r)) σ' 0 0 5 0 0 σ 68 [none, none, some (.int l2), none, none] [] := by
  unfold DX7_flownCoupons_68 at h
  refine x_iload_n (pc := 68) C dX7_flownCoupons_68 rfl rfl ?_
  cases h
  exact x_iret C hr dX7_flownCoupons_69
def DX7_flownCoupons_4 : Nat → Nat → Int32 → Int32 → Int32 → Sg → Option (Int32 × Sg)
  | 0, _, _, _, _, _ => none
  | n + 1, l0, l1, l2, l3, σ =>
    chk (ckO σ 5 l0) <|
    chk (ckV (gR σ l0 2)) <|
    chk (ckO σ 0 (gR σ l0 2)) <|
    if (gI σ (gR σ l0 2) 9) ≤ l3 then
      DX7_flownCoupons_68 l2 σ
    else
      DX7_flownCoupons_18 (DX7_flownCoupons_4 n) FU l0 l1 l2 l3 (0 : Int32) σ
theorem tX7_flownCoupons_4 {r : Int32} {σ' : Sg} (C : Cx E p s m args meth c RX7 cX7_flownCoupons 5) (hr : meth.sig.returnType = (some .int)) : ∀ (n : Nat) (l0 : Nat) (l1 : Int32) (l2 : Int32) (l3 : Int32) (σ : Sg) (h : DX7_flownCoupons_4 n l0 l1 l2 l3 σ = some (r, σ')), Y E p l e (rmA 1 0 0) s m args below meth c (some (.int r)) σ' 0 0 5 0 0 σ 4 [some (.ref (ad E l0)), some (.int l1), some (.int l2), some (.int l3), none] [] := by
  intro n
  induction n with
  | zero => intro l0 l1 l2 l3 σ h; cases h
  | succ n ih =>
    intro l0 l1 l2 l3 σ h
    unfold DX7_flownCoupons_4 at h
    refine x_iload_n (pc := 4) C dX7_flownCoupons_4 rfl rfl ?_
    refine x_aload_n (pc := 5) C dX7_flownCoupons_5 rfl rfl ?_
    obtain ⟨k, h⟩ := chk_s h
    have k2 := k
    obtain ⟨k, h⟩ := chk_s h
    refine x_getR (pc := 6) C fX7_20 rfl k2 k dX7_flownCoupons_6 ?_
    obtain ⟨k, h⟩ := chk_s h
    refine x_getI (pc := 9) C fX7_100 rfl k dX7_flownCoupons_9 ?_
    refine x_icmp_ge (pc := 12) (tgt := 68) C dX7_flownCoupons_12 (by decide) (fun q => ?_) (fun q => ?_)
    · rw [if_pos q] at h
      exact x_sub (tX7_flownCoupons_68 C hr h) (xLe_n (xLe_n (xLe_s (xLe_n (xLe_n xLe_0)))))
    · rw [if_neg q] at h
      refine x_iconst (v := 0) (pc := 15) C dX7_flownCoupons_15 (by decide) ?_
      refine x_istore (M := [some _, some _, some _, some _, some _]) (pc := 16) C dX7_flownCoupons_16 (by decide) rfl ?_
      exact x_sub (tX7_flownCoupons_18 C hr ih FU _ _ _ _ _ _ h) (xLe_s (xLe_s (xLe_s (xLe_s (xLe_s xLe_0)))))
def DX7_flownCoupons (l0 : Nat) (l1 : Int32) (σ : Sg) : Option (Int32 × Sg) :=
  DX7_flownCoupons_4 FU l0 l1 (0 : Int32) (0 : Int32) σ
theorem mX7_flownCoupons (E : Ev) (l : Launch) {l0 : Nat} {l1 : Int32} {σ : Sg} {r : Int32} {σ' : Sg} (h : DX7_flownCoupons l0 l1 σ = some (r, σ')) : Mt E l yX7_flownCoupons cX7_flownCoupons 5 (some .int) 1 0 0 [.ref (ad E l0), .int l1] σ (some (.int r)) σ' := by
  refine Mt.ofX (by decide) (Nat.le_of_ble_eq_true rfl) (L0 := [some (.ref (ad E l0)), some (.int l1), none, none, none]) (xEntN_ok [.ref (ad E l0), .int l1] 5) (fun p e s m args below meth c C hr hn => ?_)
  unfold DX7_flownCoupons at h
  refine x_iconst (v := 0) (pc := 0) C dX7_flownCoupons_0 (by decide) ?_
  refine x_istore_n (M := [some _, some _, some _, none, none]) (pc := 1) C dX7_flownCoupons_1 rfl (by decide) rfl ?_
  refine x_iconst (v := 0) (pc := 2) C dX7_flownCoupons_2 (by decide) ?_
  refine x_istore_n (M := [some _, some _, some _, some _, none]) (pc := 3) C dX7_flownCoupons_3 rfl (by decide) rfl ?_
  exact x_sub (tX7_flownCoupons_4 C hr FU _ _ _ _ _ h) (xLe_s (xLe_s (xLe_s (xLe_s (xLe_n xLe_0)))))
def DX7_openCoupons_73 (K4 : Nat → Int32 → Int32 → Int32 → Sg → Option (Int32 × Sg)) (K38 : Nat → Int32 → Int32 → Int32 → Int32 → Sg → Option (Int32 × Sg)) (l0 : Nat) (l1 : Int32) (l3 : Int32) (l4 : Int32) (s0 : Int32) (s1 : Int32) (σ : Sg) : Option (Int32 × Sg) :=
  K38 l0 l1 (s0 + s1) l3 (l4 + (1 : Int32)) σ
theorem tX7_openCoupons_73 {r : Int32} {σ' : Sg} (C : Cx E p s m args meth c RX7 cX7_openCoupons 5) (hr : meth.sig.returnType = (some .int)) {K4 : Nat → Int32 → Int32 → Int32 → Sg → Option (Int32 × Sg)} (hK4 : ∀ (l0 : Nat) (l1 : Int32) (l2 : Int32) (l3 : Int32) (σ : Sg), K4 l0 l1 l2 l3 σ = some (r, σ') → Y E p l e (rmA 2 0 0) s m args below meth c (some (.int r)) σ' 0 0 5 0 0 σ 4 [some (.ref (ad E l0)), some (.int l1), some (.int l2), some (.int l3), none] []) {K38 : Nat → Int32 → Int32 → Int32 → Int32 → Sg → Option (Int32 × Sg)} (hK38 : ∀ (l0 : Nat) (l1 : Int32) (l2 : Int32) (l3 : Int32) (l4 : Int32) (σ : Sg), K38 l0 l1 l2 l3 l4 σ = some (r, σ') → Y E p l e (rmA 2 0 0) s m args below meth c (some (.int r)) σ' 0 0 5 0 0 σ 38 [some (.ref (ad E l0)), some (.int l1), some (.int l2), some (.int l3), some (.int l4)] []) {l0 : Nat} {l1 : Int32} {l3 : Int32} {l4 : Int32} {s0 : Int32} {s1 : Int32} {σ : Sg} (h : DX7_openCoupons_73 K4 K38 l0 l1 l3 l4 s0 s1 σ = some (r, σ')) : Y E p l e (rmA 2 0 0) s m args below meth c (some (.int r)) σ' 0 0 5 0 0 σ 73 [some (.ref (ad E l0)), some (.int l1), none, some (.int l3), some (.int l4)] [.int s1, .int s0] := by
  unfold DX7_openCoupons_73 at h
  refine x_iadd (pc := 73) C dX7_openCoupons_73 ?_
  refine x_istore_n (M := [some _, some _, some _, some _, some _]) (pc := 74) C dX7_openCoupons_74 rfl (by decide) rfl ?_
  refine x_iinc (v := 1) (M := [some _, some _, some _, some _, some _]) (pc := 75) C dX7_openCoupons_75 rfl (by decide) (by decide) rfl ?_
  refine x_goto (tgt := 38) (pc := 78) C dX7_openCoupons_78 (by decide) ?_
  exact x_sub (hK38 _ _ _ _ _ _ h) (xLe_s (xLe_s (xLe_s (xLe_s (xLe_s xLe_0)))))
def DX7_openCoupons_81 (K4 : Nat → Int32 → Int32 → Int32 → Sg → Option (Int32 × Sg)) (l0 : Nat) (l1 : Int32) (l2 : Int32) (l3 : Int32) (σ : Sg) : Option (Int32 × Sg) :=
  K4 l0 l1 l2 (l3 + (1 : Int32)) σ
theorem tX7_openCoupons_81 {r : Int32} {σ' : Sg} (C : Cx E p s m args meth c RX7 cX7_openCoupons 5) (hr : meth.sig.returnType = (some .int)) {K4 : Nat → Int32 → Int32 → Int32 → Sg → Option (Int32 × Sg)} (hK4 : ∀ (l0 : Nat) (l1 : Int32) (l2 : Int32) (l3 : Int32) (σ : Sg), K4 l0 l1 l2 l3 σ = some (r, σ') → Y E p l e (rmA 2 0 0) s m args below meth c (some (.int r)) σ' 0 0 5 0 0 σ 4 [some (.ref (ad E l0)), some (.int l1), some (.int l2), some (.int l3), none] []) {l0 : Nat} {l1 : Int32} {l2 : Int32} {l3 : Int32} {σ : Sg} (h : DX7_openCoupons_81 K4 l0 l1 l2 l3 σ = some (r, σ')) : Y E p l e (rmA 2 0 0) s m args below meth c (some (.int r)) σ' 0 0 5 0 0 σ 81 [some (.ref (ad E l0)), some (.int l1), some (.int l2), some (.int l3), none] [] := by
  unfold DX7_openCoupons_81 at h
  refine x_iinc (v := 1) (M := [some _, some _, some _, some _, none]) (pc := 81) C dX7_openCoupons_81 rfl (by decide) (by decide) rfl ?_
  refine x_goto (tgt := 4) (pc := 84) C dX7_openCoupons_84 (by decide) ?_
  exact x_sub (hK4 _ _ _ _ _ h) (xLe_s (xLe_s (xLe_s (xLe_s (xLe_n xLe_0)))))
def DX7_openCoupons_38 (K4 : Nat → Int32 → Int32 → Int32 → Sg → Option (Int32 × Sg)) : Nat → Nat → Int32 → Int32 → Int32 → Int32 → Sg → Option (Int32 × Sg)
  | 0, _, _, _, _, _, _ => none
  | n + 1, l0, l1, l2, l3, l4, σ =>
    chk (ckO σ 5 l0) <|
    chk (ckV (gR σ l0 2)) <|
    chk (ckO σ 0 (gR σ l0 2)) <|
    bnd (DX1_couponsOf (gR σ l0 2) l3 σ) fun v1 σ2 =>
    if v1 ≤ l4 then
      DX7_openCoupons_81 K4 l0 l1 l2 l3 σ2
    else
      chk (ckO σ2 5 l0) <|
      chk (ckV (gR σ2 l0 5)) <|
      chk (ckO σ2 1 (gR σ2 l0 5)) <|
      chk (ckV (gR σ2 (gR σ2 l0 5) 3)) <|
      chk (ckG σ2 (gR σ2 (gR σ2 l0 5) 3) l3) <|
      chk (ckR σ2 (gR σ2 (gR σ2 l0 5) 3) l3.toNatClampNeg l4) <|
      if (aG σ2 (gR σ2 (gR σ2 l0 5) 3) l3.toNatClampNeg l4.toNatClampNeg) = l1 then
        DX7_openCoupons_73 K4 (DX7_openCoupons_38 K4 n) l0 l1 l3 l4 l2 (1 : Int32) σ2
      else
        DX7_openCoupons_73 K4 (DX7_openCoupons_38 K4 n) l0 l1 l3 l4 l2 (0 : Int32) σ2
theorem tX7_openCoupons_38 {r : Int32} {σ' : Sg} (C : Cx E p s m args meth c RX7 cX7_openCoupons 5) (hr : meth.sig.returnType = (some .int)) {K4 : Nat → Int32 → Int32 → Int32 → Sg → Option (Int32 × Sg)} (hK4 : ∀ (l0 : Nat) (l1 : Int32) (l2 : Int32) (l3 : Int32) (σ : Sg), K4 l0 l1 l2 l3 σ = some (r, σ') → Y E p l e (rmA 2 0 0) s m args below meth c (some (.int r)) σ' 0 0 5 0 0 σ 4 [some (.ref (ad E l0)), some (.int l1), some (.int l2), some (.int l3), none] []) : ∀ (n : Nat) (l0 : Nat) (l1 : Int32) (l2 : Int32) (l3 : Int32) (l4 : Int32) (σ : Sg) (h : DX7_openCoupons_38 K4 n l0 l1 l2 l3 l4 σ = some (r, σ')), Y E p l e (rmA 2 0 0) s m args below meth c (some (.int r)) σ' 0 0 5 0 0 σ 38 [some (.ref (ad E l0)), some (.int l1), some (.int l2), some (.int l3), some (.int l4)] [] := by
  intro n
  induction n with
  | zero => intro l0 l1 l2 l3 l4 σ h; cases h
  | succ n ih =>
    intro l0 l1 l2 l3 l4 σ h
    unfold DX7_openCoupons_38 at h
    refine x_iload (pc := 38) C dX7_openCoupons_38 rfl ?_
    refine x_aload_n (pc := 40) C dX7_openCoupons_40 rfl rfl ?_
    obtain ⟨k, h⟩ := chk_s h
    have k2 := k
    obtain ⟨k, h⟩ := chk_s h
    refine x_getR (pc := 41) C fX7_20 rfl k2 k dX7_openCoupons_41 ?_
    refine x_iload_n (pc := 44) C dX7_openCoupons_44 rfl rfl ?_
    obtain ⟨k, h⟩ := chk_s h
    have k2 := k
    obtain ⟨v1, σ2, k, h⟩ := bnd_s h
    refine x_callV1 (pc := 45) C (mX1_couponsOf E l k) cl0 k2 cX7_107 nX1_couponsOf sX1_couponsOf rfl rfl (Nat.le_of_ble_eq_true rfl) ⟨Nat.le_of_ble_eq_true rfl, Nat.le_of_ble_eq_true rfl, Nat.le_of_ble_eq_true rfl, Nat.le_of_ble_eq_true rfl⟩ dX7_openCoupons_45 ?_
    refine x_icmp_ge (pc := 48) (tgt := 81) C dX7_openCoupons_48 (by decide) (fun q => ?_) (fun q => ?_)
    · rw [if_pos q] at h
      exact x_sub (tX7_openCoupons_81 C hr hK4 h) (xLe_s (xLe_s (xLe_s (xLe_s (xLe_n xLe_0)))))
    · rw [if_neg q] at h
      refine x_iload_n (pc := 51) C dX7_openCoupons_51 rfl rfl ?_
      refine x_aload_n (pc := 52) C dX7_openCoupons_52 rfl rfl ?_
      obtain ⟨k, h⟩ := chk_s h
      have k2 := k
      obtain ⟨k, h⟩ := chk_s h
      refine x_getR (pc := 53) C fX7_39 rfl k2 k dX7_openCoupons_53 ?_
      obtain ⟨k, h⟩ := chk_s h
      have k2 := k
      obtain ⟨k, h⟩ := chk_s h
      refine x_getR (pc := 56) C fX7_200 rfl k2 k dX7_openCoupons_56 ?_
      refine x_iload_n (pc := 59) C dX7_openCoupons_59 rfl rfl ?_
      obtain ⟨k, h⟩ := chk_s h
      refine x_gald (pc := 60) C k dX7_openCoupons_60 ?_
      refine x_iload (pc := 61) C dX7_openCoupons_61 rfl ?_
      obtain ⟨k, h⟩ := chk_s h
      refine x_rald (pc := 63) C k dX7_openCoupons_63 ?_
      refine x_iload_n (pc := 64) C dX7_openCoupons_64 rfl rfl ?_
      refine x_icmp_ne (pc := 65) (tgt := 72) C dX7_openCoupons_65 (by decide) (fun q => ?_) (fun q => ?_)
      · rw [if_pos q] at h
        refine x_iconst (v := 1) (pc := 68) C dX7_openCoupons_68 (by decide) ?_
        refine x_goto (tgt := 73) (pc := 69) C dX7_openCoupons_69 (by decide) ?_
        exact x_sub (tX7_openCoupons_73 C hr hK4 ih h) (xLe_s (xLe_s (xLe_n (xLe_s (xLe_s xLe_0)))))
      · rw [if_neg q] at h
        refine x_iconst (v := 0) (pc := 72) C dX7_openCoupons_72 (by decide) ?_
        exact x_sub (tX7_openCoupons_73 C hr hK4 ih h) (xLe_s (xLe_s (xLe_n (xLe_s (xLe_s xLe_0)))))
def DX7_openCoupons_87 (l2 : Int32) (σ : Sg) : Option (Int32 × Sg) :=
  some (l2, σ)
theorem tX7_openCoupons_87 {r : Int32} {σ' : Sg} (C : Cx E p s m args meth c RX7 cX7_openCoupons 5) (hr : meth.sig.returnType = (some .int)) {l2 : Int32} {σ : Sg} (h : DX7_openCoupons_87 l2 σ = some (r, σ')) : Y E p l e (rmA 2 0 0) s m args below meth c (some (.int r)) σ' 0 0 5 0 0 σ 87 [none, none, some (.int l2), none, none] [] := by
  unfold DX7_openCoupons_87 at h
  refine x_iload_n (pc := 87) C dX7_openCoupons_87 rfl rfl ?_
  cases h
  exact x_iret C hr dX7_openCoupons_88
def DX7_openCoupons_4 : Nat → Nat → Int32 → Int32 → Int32 → Sg → Option (Int32 × Sg)
  | 0, _, _, _, _, _ => none
  | n + 1, l0, l1, l2, l3, σ =>
    chk (ckO σ 5 l0) <|
    chk (ckV (gR σ l0 2)) <|
    chk (ckO σ 0 (gR σ l0 2)) <|
    if (gI σ (gR σ l0 2) 9) ≤ l3 then
      DX7_openCoupons_87 l2 σ
    else
      chk (ckO σ 5 l0) <|
      chk (ckV (gR σ l0 5)) <|
      chk (ckO σ 1 (gR σ l0 5)) <|
      chk (ckV (gR σ (gR σ l0 5) 2)) <|
      chk (ckZ σ (gR σ (gR σ l0 5) 2) l3) <|
      if (aI σ (gR σ (gR σ l0 5) 2) l3.toNatClampNeg) = 0 then
        chk (ckO σ 5 l0) <|
        chk (ckV (gR σ l0 5)) <|
        chk (ckO σ 1 (gR σ l0 5)) <|
        chk (ckV (gR σ (gR σ l0 5) 1)) <|
        chk (ckI σ (gR σ (gR σ l0 5) 1) l3) <|
        DX7_openCoupons_38 (DX7_openCoupons_4 n) FU l0 l1 l2 l3 (aI σ (gR σ (gR σ l0 5) 1) l3.toNatClampNeg) σ
      else
        DX7_openCoupons_81 (DX7_openCoupons_4 n) l0 l1 l2 l3 σ
theorem tX7_openCoupons_4 {r : Int32} {σ' : Sg} (C : Cx E p s m args meth c RX7 cX7_openCoupons 5) (hr : meth.sig.returnType = (some .int)) : ∀ (n : Nat) (l0 : Nat) (l1 : Int32) (l2 : Int32) (l3 : Int32) (σ : Sg) (h : DX7_openCoupons_4 n l0 l1 l2 l3 σ = some (r, σ')), Y E p l e (rmA 2 0 0) s m args below meth c (some (.int r)) σ' 0 0 5 0 0 σ 4 [some (.ref (ad E l0)), some (.int l1), some (.int l2), some (.int l3), none] [] := by
  intro n
  induction n with
  | zero => intro l0 l1 l2 l3 σ h; cases h
  | succ n ih =>
    intro l0 l1 l2 l3 σ h
    unfold DX7_openCoupons_4 at h
    refine x_iload_n (pc := 4) C dX7_openCoupons_4 rfl rfl ?_
    refine x_aload_n (pc := 5) C dX7_openCoupons_5 rfl rfl ?_
    obtain ⟨k, h⟩ := chk_s h
    have k2 := k
    obtain ⟨k, h⟩ := chk_s h
    refine x_getR (pc := 6) C fX7_20 rfl k2 k dX7_openCoupons_6 ?_
    obtain ⟨k, h⟩ := chk_s h
    refine x_getI (pc := 9) C fX7_100 rfl k dX7_openCoupons_9 ?_
    refine x_icmp_ge (pc := 12) (tgt := 87) C dX7_openCoupons_12 (by decide) (fun q => ?_) (fun q => ?_)
    · rw [if_pos q] at h
      exact x_sub (tX7_openCoupons_87 C hr h) (xLe_n (xLe_n (xLe_s (xLe_n (xLe_n xLe_0)))))
    · rw [if_neg q] at h
      refine x_aload_n (pc := 15) C dX7_openCoupons_15 rfl rfl ?_
      obtain ⟨k, h⟩ := chk_s h
      have k2 := k
      obtain ⟨k, h⟩ := chk_s h
      refine x_getR (pc := 16) C fX7_39 rfl k2 k dX7_openCoupons_16 ?_
      obtain ⟨k, h⟩ := chk_s h
      have k2 := k
      obtain ⟨k, h⟩ := chk_s h
      refine x_getR (pc := 19) C fX7_181 rfl k2 k dX7_openCoupons_19 ?_
      refine x_iload_n (pc := 22) C dX7_openCoupons_22 rfl rfl ?_
      obtain ⟨k, h⟩ := chk_s h
      refine x_zald (pc := 23) C k dX7_openCoupons_23 ?_
      refine x_if_ne (pc := 24) (tgt := 81) C dX7_openCoupons_24 (by decide) (fun q => ?_) (fun q => ?_)
      · rw [if_pos q] at h
        refine x_aload_n (pc := 27) C dX7_openCoupons_27 rfl rfl ?_
        obtain ⟨k, h⟩ := chk_s h
        have k2 := k
        obtain ⟨k, h⟩ := chk_s h
        refine x_getR (pc := 28) C fX7_39 rfl k2 k dX7_openCoupons_28 ?_
        obtain ⟨k, h⟩ := chk_s h
        have k2 := k
        obtain ⟨k, h⟩ := chk_s h
        refine x_getR (pc := 31) C fX7_175 rfl k2 k dX7_openCoupons_31 ?_
        refine x_iload_n (pc := 34) C dX7_openCoupons_34 rfl rfl ?_
        obtain ⟨k, h⟩ := chk_s h
        refine x_iald (pc := 35) C k dX7_openCoupons_35 ?_
        refine x_istore (M := [some _, some _, some _, some _, some _]) (pc := 36) C dX7_openCoupons_36 (by decide) rfl ?_
        exact x_sub (tX7_openCoupons_38 C hr ih FU _ _ _ _ _ _ h) (xLe_s (xLe_s (xLe_s (xLe_s (xLe_s xLe_0)))))
      · rw [if_neg q] at h
        exact x_sub (tX7_openCoupons_81 C hr ih h) (xLe_s (xLe_s (xLe_s (xLe_s (xLe_n xLe_0)))))
def DX7_openCoupons (l0 : Nat) (l1 : Int32) (σ : Sg) : Option (Int32 × Sg) :=
  DX7_openCoupons_4 FU l0 l1 (0 : Int32) (0 : Int32) σ
theorem mX7_openCoupons (E : Ev) (l : Launch) {l0 : Nat} {l1 : Int32} {σ : Sg} {r : Int32} {σ' : Sg} (h : DX7_openCoupons l0 l1 σ = some (r, σ')) : Mt E l yX7_openCoupons cX7_openCoupons 5 (some .int) 2 0 0 [.ref (ad E l0), .int l1] σ (some (.int r)) σ' := by
  refine Mt.ofX (by decide) (Nat.le_of_ble_eq_true rfl) (L0 := [some (.ref (ad E l0)), some (.int l1), none, none, none]) (xEntN_ok [.ref (ad E l0), .int l1] 5) (fun p e s m args below meth c C hr hn => ?_)
  unfold DX7_openCoupons at h
  refine x_iconst (v := 0) (pc := 0) C dX7_openCoupons_0 (by decide) ?_
  refine x_istore_n (M := [some _, some _, some _, none, none]) (pc := 1) C dX7_openCoupons_1 rfl (by decide) rfl ?_
  refine x_iconst (v := 0) (pc := 2) C dX7_openCoupons_2 (by decide) ?_
  refine x_istore_n (M := [some _, some _, some _, some _, none]) (pc := 3) C dX7_openCoupons_3 rfl (by decide) rfl ?_
  exact x_sub (tX7_openCoupons_4 C hr FU _ _ _ _ _ h) (xLe_s (xLe_s (xLe_s (xLe_s (xLe_n xLe_0)))))
def DX7_issuedTickets_34 (K4 : Nat → Int32 → Int32 → Int32 → Sg → Option (Int32 × Sg)) (l0 : Nat) (l1 : Int32) (l3 : Int32) (s0 : Int32) (s1 : Int32) (σ : Sg) : Option (Int32 × Sg) :=
  K4 l0 l1 (s0 + s1) (l3 + (1 : Int32)) σ
theorem tX7_issuedTickets_34 {r : Int32} {σ' : Sg} (C : Cx E p s m args meth c RX7 cX7_issuedTickets 4) (hr : meth.sig.returnType = (some .int)) {K4 : Nat → Int32 → Int32 → Int32 → Sg → Option (Int32 × Sg)} (hK4 : ∀ (l0 : Nat) (l1 : Int32) (l2 : Int32) (l3 : Int32) (σ : Sg), K4 l0 l1 l2 l3 σ = some (r, σ') → Y E p l e (rmA 1 0 0) s m args below meth c (some (.int r)) σ' 0 0 4 0 0 σ 4 [some (.ref (ad E l0)), some (.int l1), some (.int l2), some (.int l3)] []) {l0 : Nat} {l1 : Int32} {l3 : Int32} {s0 : Int32} {s1 : Int32} {σ : Sg} (h : DX7_issuedTickets_34 K4 l0 l1 l3 s0 s1 σ = some (r, σ')) : Y E p l e (rmA 1 0 0) s m args below meth c (some (.int r)) σ' 0 0 4 0 0 σ 34 [some (.ref (ad E l0)), some (.int l1), none, some (.int l3)] [.int s1, .int s0] := by
  unfold DX7_issuedTickets_34 at h
  refine x_iadd (pc := 34) C dX7_issuedTickets_34 ?_
  refine x_istore_n (M := [some _, some _, some _, some _]) (pc := 35) C dX7_issuedTickets_35 rfl (by decide) rfl ?_
  refine x_iinc (v := 1) (M := [some _, some _, some _, some _]) (pc := 36) C dX7_issuedTickets_36 rfl (by decide) (by decide) rfl ?_
  refine x_goto (tgt := 4) (pc := 39) C dX7_issuedTickets_39 (by decide) ?_
  exact x_sub (hK4 _ _ _ _ _ h) (xLe_s (xLe_s (xLe_s (xLe_s xLe_0))))
def DX7_issuedTickets_42 (l2 : Int32) (σ : Sg) : Option (Int32 × Sg) :=
  some (l2, σ)
theorem tX7_issuedTickets_42 {r : Int32} {σ' : Sg} (C : Cx E p s m args meth c RX7 cX7_issuedTickets 4) (hr : meth.sig.returnType = (some .int)) {l2 : Int32} {σ : Sg} (h : DX7_issuedTickets_42 l2 σ = some (r, σ')) : Y E p l e (rmA 1 0 0) s m args below meth c (some (.int r)) σ' 0 0 4 0 0 σ 42 [none, none, some (.int l2), none] [] := by
  unfold DX7_issuedTickets_42 at h
  refine x_iload_n (pc := 42) C dX7_issuedTickets_42 rfl rfl ?_
  cases h
  exact x_iret C hr dX7_issuedTickets_43
def DX7_issuedTickets_4 : Nat → Nat → Int32 → Int32 → Int32 → Sg → Option (Int32 × Sg)
  | 0, _, _, _, _, _ => none
  | n + 1, l0, l1, l2, l3, σ =>
    chk (ckO σ 5 l0) <|
    chk (ckV (gR σ l0 2)) <|
    chk (ckO σ 0 (gR σ l0 2)) <|
    if (gI σ (gR σ l0 2) 9) ≤ l3 then
      DX7_issuedTickets_42 l2 σ
    else
      chk (ckO σ 5 l0) <|
      chk (ckV (gR σ l0 5)) <|
      chk (ckO σ 1 (gR σ l0 5)) <|
      chk (ckV (gR σ (gR σ l0 5) 0)) <|
      chk (ckI σ (gR σ (gR σ l0 5) 0) l3) <|
      if (aI σ (gR σ (gR σ l0 5) 0) l3.toNatClampNeg) = l1 then
        DX7_issuedTickets_34 (DX7_issuedTickets_4 n) l0 l1 l3 l2 (1 : Int32) σ
      else
        DX7_issuedTickets_34 (DX7_issuedTickets_4 n) l0 l1 l3 l2 (0 : Int32) σ
theorem tX7_issuedTickets_4 {r : Int32} {σ' : Sg} (C : Cx E p s m args meth c RX7 cX7_issuedTickets 4) (hr : meth.sig.returnType = (some .int)) : ∀ (n : Nat) (l0 : Nat) (l1 : Int32) (l2 : Int32) (l3 : Int32) (σ : Sg) (h : DX7_issuedTickets_4 n l0 l1 l2 l3 σ = some (r, σ')), Y E p l e (rmA 1 0 0) s m args below meth c (some (.int r)) σ' 0 0 4 0 0 σ 4 [some (.ref (ad E l0)), some (.int l1), some (.int l2), some (.int l3)] [] := by
  intro n
  induction n with
  | zero => intro l0 l1 l2 l3 σ h; cases h
  | succ n ih =>
    intro l0 l1 l2 l3 σ h
    unfold DX7_issuedTickets_4 at h
    refine x_iload_n (pc := 4) C dX7_issuedTickets_4 rfl rfl ?_
    refine x_aload_n (pc := 5) C dX7_issuedTickets_5 rfl rfl ?_
    obtain ⟨k, h⟩ := chk_s h
    have k2 := k
    obtain ⟨k, h⟩ := chk_s h
    refine x_getR (pc := 6) C fX7_20 rfl k2 k dX7_issuedTickets_6 ?_
    obtain ⟨k, h⟩ := chk_s h
    refine x_getI (pc := 9) C fX7_100 rfl k dX7_issuedTickets_9 ?_
    refine x_icmp_ge (pc := 12) (tgt := 42) C dX7_issuedTickets_12 (by decide) (fun q => ?_) (fun q => ?_)
    · rw [if_pos q] at h
      exact x_sub (tX7_issuedTickets_42 C hr h) (xLe_n (xLe_n (xLe_s (xLe_n xLe_0))))
    · rw [if_neg q] at h
      refine x_iload_n (pc := 15) C dX7_issuedTickets_15 rfl rfl ?_
      refine x_aload_n (pc := 16) C dX7_issuedTickets_16 rfl rfl ?_
      obtain ⟨k, h⟩ := chk_s h
      have k2 := k
      obtain ⟨k, h⟩ := chk_s h
      refine x_getR (pc := 17) C fX7_39 rfl k2 k dX7_issuedTickets_17 ?_
      obtain ⟨k, h⟩ := chk_s h
      have k2 := k
      obtain ⟨k, h⟩ := chk_s h
      refine x_getR (pc := 20) C fX7_178 rfl k2 k dX7_issuedTickets_20 ?_
      refine x_iload_n (pc := 23) C dX7_issuedTickets_23 rfl rfl ?_
      obtain ⟨k, h⟩ := chk_s h
      refine x_iald (pc := 24) C k dX7_issuedTickets_24 ?_
      refine x_iload_n (pc := 25) C dX7_issuedTickets_25 rfl rfl ?_
      refine x_icmp_ne (pc := 26) (tgt := 33) C dX7_issuedTickets_26 (by decide) (fun q => ?_) (fun q => ?_)
      · rw [if_pos q] at h
        refine x_iconst (v := 1) (pc := 29) C dX7_issuedTickets_29 (by decide) ?_
        refine x_goto (tgt := 34) (pc := 30) C dX7_issuedTickets_30 (by decide) ?_
        exact x_sub (tX7_issuedTickets_34 C hr ih h) (xLe_s (xLe_s (xLe_n (xLe_s xLe_0))))
      · rw [if_neg q] at h
        refine x_iconst (v := 0) (pc := 33) C dX7_issuedTickets_33 (by decide) ?_
        exact x_sub (tX7_issuedTickets_34 C hr ih h) (xLe_s (xLe_s (xLe_n (xLe_s xLe_0))))
def DX7_issuedTickets (l0 : Nat) (l1 : Int32) (σ : Sg) : Option (Int32 × Sg) :=
  DX7_issuedTickets_4 FU l0 l1 (0 : Int32) (0 : Int32) σ
theorem mX7_issuedTickets (E : Ev) (l : Launch) {l0 : Nat} {l1 : Int32} {σ : Sg} {r : Int32} {σ' : Sg} (h : DX7_issuedTickets l0 l1 σ = some (r, σ')) : Mt E l yX7_issuedTickets cX7_issuedTickets 4 (some .int) 1 0 0 [.ref (ad E l0), .int l1] σ (some (.int r)) σ' := by
  refine Mt.ofX (by decide) (Nat.le_of_ble_eq_true rfl) (L0 := [some (.ref (ad E l0)), some (.int l1), none, none]) (xEntN_ok [.ref (ad E l0), .int l1] 4) (fun p e s m args below meth c C hr hn => ?_)
  unfold DX7_issuedTickets at h
  refine x_iconst (v := 0) (pc := 0) C dX7_issuedTickets_0 (by decide) ?_
  refine x_istore_n (M := [some _, some _, some _, none]) (pc := 1) C dX7_issuedTickets_1 rfl (by decide) rfl ?_
  refine x_iconst (v := 0) (pc := 2) C dX7_issuedTickets_2 (by decide) ?_
  refine x_istore_n (M := [some _, some _, some _, some _]) (pc := 3) C dX7_issuedTickets_3 rfl (by decide) rfl ?_
  exact x_sub (tX7_issuedTickets_4 C hr FU _ _ _ _ _ h) (xLe_s (xLe_s (xLe_s (xLe_s xLe_0))))
def DX7_carrier (l0 : Nat) (l1 : Int32) (l2 : Int32) (σ : Sg) : Option (Int32 × Sg) :=
  chk (ckO σ 5 l0) <|
  bnd (DX7_isCarrier l0 l1 σ) fun v1 σ2 =>
  if v1 = 0 then
    some ((-1 : Int32), σ2)
  else
    if l2 = 0 then
      chk (ckO σ2 5 l0) <|
      bnd (DX7_flownShares l0 l1 σ2) fun v3 σ4 =>
      some (v3, σ4)
    else
      if l2 = 1 then
        chk (ckO σ2 5 l0) <|
        bnd (DX7_openShares l0 l1 σ2) fun v5 σ6 =>
        some (v5, σ6)
      else
        if l2 = 2 then
          chk (ckO σ2 5 l0) <|
          bnd (DX7_flownMiles l0 l1 σ2) fun v7 σ8 =>
          some (v7, σ8)
        else
          if l2 = 3 then
            chk (ckO σ2 5 l0) <|
            bnd (DX7_flownCoupons l0 l1 σ2) fun v9 σ10 =>
            some (v9, σ10)
          else
            if l2 = 4 then
              chk (ckO σ2 5 l0) <|
              bnd (DX7_openCoupons l0 l1 σ2) fun v11 σ12 =>
              some (v11, σ12)
            else
              if l2 = 5 then
                chk (ckO σ2 5 l0) <|
                bnd (DX7_issuedTickets l0 l1 σ2) fun v13 σ14 =>
                some (v13, σ14)
              else
                some ((-1 : Int32), σ2)
theorem mX7_carrier (E : Ev) (l : Launch) {l0 : Nat} {l1 : Int32} {l2 : Int32} {σ : Sg} {r : Int32} {σ' : Sg} (h : DX7_carrier l0 l1 l2 σ = some (r, σ')) : Mt E l yX7_carrier cX7_carrier 3 (some .int) 7 0 0 [.ref (ad E l0), .int l1, .int l2] σ (some (.int r)) σ' := by
  refine Mt.ofX (by decide) (Nat.le_of_ble_eq_true rfl) (L0 := [some (.ref (ad E l0)), some (.int l1), some (.int l2)]) (xEntN_ok [.ref (ad E l0), .int l1, .int l2] 3) (fun p e s m args below meth c C hr hn => ?_)
  unfold DX7_carrier at h
  refine x_aload_n (pc := 0) C dX7_carrier_0 rfl rfl ?_
  refine x_iload_n (pc := 1) C dX7_carrier_1 rfl rfl ?_
  obtain ⟨k, h⟩ := chk_s h
  have k2 := k
  obtain ⟨v1, σ2, k, h⟩ := bnd_s h
  refine x_callV1 (pc := 2) C (mX7_isCarrier E l k) cl5 k2 cX7_130 nX7_isCarrier sX7_isCarrier rfl rfl (Nat.le_of_ble_eq_true rfl) ⟨Nat.le_of_ble_eq_true rfl, Nat.le_of_ble_eq_true rfl, Nat.le_of_ble_eq_true rfl, Nat.le_of_ble_eq_true rfl⟩ dX7_carrier_2 ?_
  refine x_if_ne (pc := 5) (tgt := 10) C dX7_carrier_5 (by decide) (fun q => ?_) (fun q => ?_)
  · rw [if_pos q] at h
    refine x_iconst (v := -1) (pc := 8) C dX7_carrier_8 (by decide) ?_
    cases h
    exact x_iret C hr dX7_carrier_9
  · rw [if_neg q] at h
    refine x_iload_n (pc := 10) C dX7_carrier_10 rfl rfl ?_
    refine br_em (c := l2 = 0) (fun q0 => ?_) (fun q0 => ?_)
    · rw [if_pos q0] at h
      refine x_switchIn (pc := 11) (tgt := 48) C dX7_carrier_11 (by rw [q0]; decide) (by rw [q0]; decide) (o := 37) (by rw [q0]; rfl) (by decide) ?_
      refine x_aload_n (pc := 48) C dX7_carrier_48 rfl rfl ?_
      refine x_iload_n (pc := 49) C dX7_carrier_49 rfl rfl ?_
      obtain ⟨k, h⟩ := chk_s h
      have k2 := k
      obtain ⟨v3, σ4, k, h⟩ := bnd_s h
      refine x_callV1 (pc := 50) C (mX7_flownShares E l k) cl5 k2 cX7_311 nX7_flownShares sX7_flownShares rfl rfl (Nat.le_of_ble_eq_true rfl) ⟨Nat.le_of_ble_eq_true rfl, Nat.le_of_ble_eq_true rfl, Nat.le_of_ble_eq_true rfl, Nat.le_of_ble_eq_true rfl⟩ dX7_carrier_50 ?_
      cases h
      exact x_iret C hr dX7_carrier_53
    · rw [if_neg q0] at h
      refine br_em (c := l2 = 1) (fun q1 => ?_) (fun q1 => ?_)
      · rw [if_pos q1] at h
        refine x_switchIn (pc := 11) (tgt := 54) C dX7_carrier_11 (by rw [q1]; decide) (by rw [q1]; decide) (o := 43) (by rw [q1]; rfl) (by decide) ?_
        refine x_aload_n (pc := 54) C dX7_carrier_54 rfl rfl ?_
        refine x_iload_n (pc := 55) C dX7_carrier_55 rfl rfl ?_
        obtain ⟨k, h⟩ := chk_s h
        have k2 := k
        obtain ⟨v5, σ6, k, h⟩ := bnd_s h
        refine x_callV1 (pc := 56) C (mX7_openShares E l k) cl5 k2 cX7_314 nX7_openShares sX7_openShares rfl rfl (Nat.le_of_ble_eq_true rfl) ⟨Nat.le_of_ble_eq_true rfl, Nat.le_of_ble_eq_true rfl, Nat.le_of_ble_eq_true rfl, Nat.le_of_ble_eq_true rfl⟩ dX7_carrier_56 ?_
        cases h
        exact x_iret C hr dX7_carrier_59
      · rw [if_neg q1] at h
        refine br_em (c := l2 = 2) (fun q2 => ?_) (fun q2 => ?_)
        · rw [if_pos q2] at h
          refine x_switchIn (pc := 11) (tgt := 60) C dX7_carrier_11 (by rw [q2]; decide) (by rw [q2]; decide) (o := 49) (by rw [q2]; rfl) (by decide) ?_
          refine x_aload_n (pc := 60) C dX7_carrier_60 rfl rfl ?_
          refine x_iload_n (pc := 61) C dX7_carrier_61 rfl rfl ?_
          obtain ⟨k, h⟩ := chk_s h
          have k2 := k
          obtain ⟨v7, σ8, k, h⟩ := bnd_s h
          refine x_callV1 (pc := 62) C (mX7_flownMiles E l k) cl5 k2 cX7_317 nX7_flownMiles sX7_flownMiles rfl rfl (Nat.le_of_ble_eq_true rfl) ⟨Nat.le_of_ble_eq_true rfl, Nat.le_of_ble_eq_true rfl, Nat.le_of_ble_eq_true rfl, Nat.le_of_ble_eq_true rfl⟩ dX7_carrier_62 ?_
          cases h
          exact x_iret C hr dX7_carrier_65
        · rw [if_neg q2] at h
          refine br_em (c := l2 = 3) (fun q3 => ?_) (fun q3 => ?_)
          · rw [if_pos q3] at h
            refine x_switchIn (pc := 11) (tgt := 66) C dX7_carrier_11 (by rw [q3]; decide) (by rw [q3]; decide) (o := 55) (by rw [q3]; rfl) (by decide) ?_
            refine x_aload_n (pc := 66) C dX7_carrier_66 rfl rfl ?_
            refine x_iload_n (pc := 67) C dX7_carrier_67 rfl rfl ?_
            obtain ⟨k, h⟩ := chk_s h
            have k2 := k
            obtain ⟨v9, σ10, k, h⟩ := bnd_s h
            refine x_callV1 (pc := 68) C (mX7_flownCoupons E l k) cl5 k2 cX7_320 nX7_flownCoupons sX7_flownCoupons rfl rfl (Nat.le_of_ble_eq_true rfl) ⟨Nat.le_of_ble_eq_true rfl, Nat.le_of_ble_eq_true rfl, Nat.le_of_ble_eq_true rfl, Nat.le_of_ble_eq_true rfl⟩ dX7_carrier_68 ?_
            cases h
            exact x_iret C hr dX7_carrier_71
          · rw [if_neg q3] at h
            refine br_em (c := l2 = 4) (fun q4 => ?_) (fun q4 => ?_)
            · rw [if_pos q4] at h
              refine x_switchIn (pc := 11) (tgt := 72) C dX7_carrier_11 (by rw [q4]; decide) (by rw [q4]; decide) (o := 61) (by rw [q4]; rfl) (by decide) ?_
              refine x_aload_n (pc := 72) C dX7_carrier_72 rfl rfl ?_
              refine x_iload_n (pc := 73) C dX7_carrier_73 rfl rfl ?_
              obtain ⟨k, h⟩ := chk_s h
              have k2 := k
              obtain ⟨v11, σ12, k, h⟩ := bnd_s h
              refine x_callV1 (pc := 74) C (mX7_openCoupons E l k) cl5 k2 cX7_323 nX7_openCoupons sX7_openCoupons rfl rfl (Nat.le_of_ble_eq_true rfl) ⟨Nat.le_of_ble_eq_true rfl, Nat.le_of_ble_eq_true rfl, Nat.le_of_ble_eq_true rfl, Nat.le_of_ble_eq_true rfl⟩ dX7_carrier_74 ?_
              cases h
              exact x_iret C hr dX7_carrier_77
            · rw [if_neg q4] at h
              refine br_em (c := l2 = 5) (fun q5 => ?_) (fun q5 => ?_)
              · rw [if_pos q5] at h
                refine x_switchIn (pc := 11) (tgt := 78) C dX7_carrier_11 (by rw [q5]; decide) (by rw [q5]; decide) (o := 67) (by rw [q5]; rfl) (by decide) ?_
                refine x_aload_n (pc := 78) C dX7_carrier_78 rfl rfl ?_
                refine x_iload_n (pc := 79) C dX7_carrier_79 rfl rfl ?_
                obtain ⟨k, h⟩ := chk_s h
                have k2 := k
                obtain ⟨v13, σ14, k, h⟩ := bnd_s h
                refine x_callV1 (pc := 80) C (mX7_issuedTickets E l k) cl5 k2 cX7_326 nX7_issuedTickets sX7_issuedTickets rfl rfl (Nat.le_of_ble_eq_true rfl) ⟨Nat.le_of_ble_eq_true rfl, Nat.le_of_ble_eq_true rfl, Nat.le_of_ble_eq_true rfl, Nat.le_of_ble_eq_true rfl⟩ dX7_carrier_80 ?_
                cases h
                exact x_iret C hr dX7_carrier_83
              · rw [if_neg q5] at h
                have eq0 := sw_ne (k := 0) q0 (by decide)
                have eq1 := sw_ne (k := 1) q1 (by decide)
                have eq2 := sw_ne (k := 2) q2 (by decide)
                have eq3 := sw_ne (k := 3) q3 (by decide)
                have eq4 := sw_ne (k := 4) q4 (by decide)
                have eq5 := sw_ne (k := 5) q5 (by decide)
                refine x_switchOut (pc := 11) (tgt := 84) C dX7_carrier_11 (by omega) (by decide) ?_
                refine x_iconst (v := -1) (pc := 84) C dX7_carrier_84 (by decide) ?_
                cases h
                exact x_iret C hr dX7_carrier_85
def DX7_perMile_32 (s0 : Int32) (σ : Sg) : Option (Int32 × Sg) :=
  some (s0, σ)
theorem tX7_perMile_32 {r : Int32} {σ' : Sg} (C : Cx E p s m args meth c RX7 cX7_perMile 3) (hr : meth.sig.returnType = (some .int)) {s0 : Int32} {σ : Sg} (h : DX7_perMile_32 s0 σ = some (r, σ')) : Y E p l e (rmA 3 0 0) s m args below meth c (some (.int r)) σ' 0 0 3 0 0 σ 32 [none, none, none] [.int s0] := by
  unfold DX7_perMile_32 at h
  cases h
  exact x_iret C hr dX7_perMile_32
def DX7_perMile (l0 : Nat) (l1 : Int32) (σ : Sg) : Option (Int32 × Sg) :=
  chk (ckO σ 5 l0) <|
  bnd (DX7_isCarrier l0 l1 σ) fun v1 σ2 =>
  if v1 = 0 then
    some ((-1 : Int32), σ2)
  else
    chk (ckO σ2 5 l0) <|
    bnd (DX7_flownMiles l0 l1 σ2) fun v3 σ4 =>
    if v3 ≤ 0 then
      DX7_perMile_32 (-2 : Int32) σ4
    else
      chk (ckO σ4 5 l0) <|
      bnd (DX7_flownShares l0 l1 σ4) fun v5 σ6 =>
      chk (ckN v3) <|
      DX7_perMile_32 (v5 / v3) σ6
theorem mX7_perMile (E : Ev) (l : Launch) {l0 : Nat} {l1 : Int32} {σ : Sg} {r : Int32} {σ' : Sg} (h : DX7_perMile l0 l1 σ = some (r, σ')) : Mt E l yX7_perMile cX7_perMile 3 (some .int) 3 0 0 [.ref (ad E l0), .int l1] σ (some (.int r)) σ' := by
  refine Mt.ofX (by decide) (Nat.le_of_ble_eq_true rfl) (L0 := [some (.ref (ad E l0)), some (.int l1), none]) (xEntN_ok [.ref (ad E l0), .int l1] 3) (fun p e s m args below meth c C hr hn => ?_)
  unfold DX7_perMile at h
  refine x_aload_n (pc := 0) C dX7_perMile_0 rfl rfl ?_
  refine x_iload_n (pc := 1) C dX7_perMile_1 rfl rfl ?_
  obtain ⟨k, h⟩ := chk_s h
  have k2 := k
  obtain ⟨v1, σ2, k, h⟩ := bnd_s h
  refine x_callV1 (pc := 2) C (mX7_isCarrier E l k) cl5 k2 cX7_130 nX7_isCarrier sX7_isCarrier rfl rfl (Nat.le_of_ble_eq_true rfl) ⟨Nat.le_of_ble_eq_true rfl, Nat.le_of_ble_eq_true rfl, Nat.le_of_ble_eq_true rfl, Nat.le_of_ble_eq_true rfl⟩ dX7_perMile_2 ?_
  refine x_if_ne (pc := 5) (tgt := 10) C dX7_perMile_5 (by decide) (fun q => ?_) (fun q => ?_)
  · rw [if_pos q] at h
    refine x_iconst (v := -1) (pc := 8) C dX7_perMile_8 (by decide) ?_
    cases h
    exact x_iret C hr dX7_perMile_9
  · rw [if_neg q] at h
    refine x_aload_n (pc := 10) C dX7_perMile_10 rfl rfl ?_
    refine x_iload_n (pc := 11) C dX7_perMile_11 rfl rfl ?_
    obtain ⟨k, h⟩ := chk_s h
    have k2 := k
    obtain ⟨v3, σ4, k, h⟩ := bnd_s h
    refine x_callV1 (pc := 12) C (mX7_flownMiles E l k) cl5 k2 cX7_317 nX7_flownMiles sX7_flownMiles rfl rfl (Nat.le_of_ble_eq_true rfl) ⟨Nat.le_of_ble_eq_true rfl, Nat.le_of_ble_eq_true rfl, Nat.le_of_ble_eq_true rfl, Nat.le_of_ble_eq_true rfl⟩ dX7_perMile_12 ?_
    refine x_istore_n (M := [some _, some _, some _]) (pc := 15) C dX7_perMile_15 rfl (by decide) rfl ?_
    refine x_iload_n (pc := 16) C dX7_perMile_16 rfl rfl ?_
    refine x_if_le (pc := 17) (tgt := 30) C dX7_perMile_17 (by decide) (fun q => ?_) (fun q => ?_)
    · rw [if_pos q] at h
      refine x_bipush (v := -2) (pc := 30) C dX7_perMile_30 (by decide) ?_
      exact x_sub (tX7_perMile_32 C hr h) (xLe_n (xLe_n (xLe_n xLe_0)))
    · rw [if_neg q] at h
      refine x_aload_n (pc := 20) C dX7_perMile_20 rfl rfl ?_
      refine x_iload_n (pc := 21) C dX7_perMile_21 rfl rfl ?_
      obtain ⟨k, h⟩ := chk_s h
      have k2 := k
      obtain ⟨v5, σ6, k, h⟩ := bnd_s h
      refine x_callV1 (pc := 22) C (mX7_flownShares E l k) cl5 k2 cX7_311 nX7_flownShares sX7_flownShares rfl rfl (Nat.le_of_ble_eq_true rfl) ⟨Nat.le_of_ble_eq_true rfl, Nat.le_of_ble_eq_true rfl, Nat.le_of_ble_eq_true rfl, Nat.le_of_ble_eq_true rfl⟩ dX7_perMile_22 ?_
      refine x_iload_n (pc := 25) C dX7_perMile_25 rfl rfl ?_
      obtain ⟨k, h⟩ := chk_s h
      refine x_idiv (pc := 26) C dX7_perMile_26 (ckN_s k) ?_
      refine x_goto (tgt := 32) (pc := 27) C dX7_perMile_27 (by decide) ?_
      exact x_sub (tX7_perMile_32 C hr h) (xLe_n (xLe_n (xLe_n xLe_0)))
def DX7_sumAllShares_67 (K6 : Nat → Int32 → Sg → Option (Unit × Sg)) (l0 : Nat) (l1 : Int32) (σ : Sg) : Option (Unit × Sg) :=
  K6 l0 (l1 + (1 : Int32)) σ
theorem tX7_sumAllShares_67 {r : Unit} {σ' : Sg} (C : Cx E p s m args meth c RX7 cX7_sumAllShares 3) (hr : meth.sig.returnType = none) {K6 : Nat → Int32 → Sg → Option (Unit × Sg)} (hK6 : ∀ (l0 : Nat) (l1 : Int32) (σ : Sg), K6 l0 l1 σ = some (r, σ') → Y E p l e (rmA 6 0 0) s m args below meth c none σ' 0 0 3 0 0 σ 6 [some (.ref (ad E l0)), some (.int l1), none] []) {l0 : Nat} {l1 : Int32} {σ : Sg} (h : DX7_sumAllShares_67 K6 l0 l1 σ = some (r, σ')) : Y E p l e (rmA 6 0 0) s m args below meth c none σ' 0 0 3 0 0 σ 67 [some (.ref (ad E l0)), some (.int l1), none] [] := by
  unfold DX7_sumAllShares_67 at h
  refine x_iinc (v := 1) (M := [some _, some _, none]) (pc := 67) C dX7_sumAllShares_67 rfl (by decide) (by decide) rfl ?_
  refine x_goto (tgt := 6) (pc := 70) C dX7_sumAllShares_70 (by decide) ?_
  exact x_sub (hK6 _ _ _ h) (xLe_s (xLe_s (xLe_n xLe_0)))
def DX7_sumAllShares_24 (K6 : Nat → Int32 → Sg → Option (Unit × Sg)) : Nat → Nat → Int32 → Int32 → Sg → Option (Unit × Sg)
  | 0, _, _, _, _ => none
  | n + 1, l0, l1, l2, σ =>
    chk (ckO σ 5 l0) <|
    chk (ckV (gR σ l0 6)) <|
    chk (ckO σ 4 (gR σ l0 6)) <|
    if (gI σ (gR σ l0 6) 2) ≤ l2 then
      DX7_sumAllShares_67 K6 l0 l1 σ
    else
      chk (ckO σ 5 l0) <|
      chk (ckV (gR σ l0 9)) <|
      chk (ckO σ 5 l0) <|
      chk (ckV (gR σ l0 6)) <|
      chk (ckO σ 4 (gR σ l0 6)) <|
      chk (ckV (gR σ (gR σ l0 6) 6)) <|
      chk (ckI σ (gR σ (gR σ l0 6) 6) l2) <|
      chk (ckI σ (gR σ l0 9) (aI σ (gR σ (gR σ l0 6) 6) l2.toNatClampNeg)) <|
      chk (ckO σ 5 l0) <|
      chk (ckV (gR σ l0 6)) <|
      chk (ckO σ 4 (gR σ l0 6)) <|
      chk (ckV (gR σ (gR σ l0 6) 12)) <|
      chk (ckI σ (gR σ (gR σ l0 6) 12) l2) <|
      chk (ckI σ (gR σ l0 9) (aI σ (gR σ (gR σ l0 6) 6) l2.toNatClampNeg)) <|
      wlet (wI σ (gR σ l0 9) (aI σ (gR σ (gR σ l0 6) 6) l2.toNatClampNeg).toNatClampNeg ((aI σ (gR σ l0 9) (aI σ (gR σ (gR σ l0 6) 6) l2.toNatClampNeg).toNatClampNeg) + (aI σ (gR σ (gR σ l0 6) 12) l2.toNatClampNeg))) fun σ1 =>
      DX7_sumAllShares_24 K6 n l0 l1 (l2 + (1 : Int32)) σ1
theorem tX7_sumAllShares_24 {r : Unit} {σ' : Sg} (C : Cx E p s m args meth c RX7 cX7_sumAllShares 3) (hr : meth.sig.returnType = none) {K6 : Nat → Int32 → Sg → Option (Unit × Sg)} (hK6 : ∀ (l0 : Nat) (l1 : Int32) (σ : Sg), K6 l0 l1 σ = some (r, σ') → Y E p l e (rmA 6 0 0) s m args below meth c none σ' 0 0 3 0 0 σ 6 [some (.ref (ad E l0)), some (.int l1), none] []) : ∀ (n : Nat) (l0 : Nat) (l1 : Int32) (l2 : Int32) (σ : Sg) (h : DX7_sumAllShares_24 K6 n l0 l1 l2 σ = some (r, σ')), Y E p l e (rmA 6 0 0) s m args below meth c none σ' 0 0 3 0 0 σ 24 [some (.ref (ad E l0)), some (.int l1), some (.int l2)] [] := by
  intro n
  induction n with
  | zero => intro l0 l1 l2 σ h; cases h
  | succ n ih =>
    intro l0 l1 l2 σ h
    unfold DX7_sumAllShares_24 at h
    refine x_iload_n (pc := 24) C dX7_sumAllShares_24 rfl rfl ?_
    refine x_aload_n (pc := 25) C dX7_sumAllShares_25 rfl rfl ?_
    obtain ⟨k, h⟩ := chk_s h
    have k2 := k
    obtain ⟨k, h⟩ := chk_s h
    refine x_getR (pc := 26) C fX7_48 rfl k2 k dX7_sumAllShares_26 ?_
    obtain ⟨k, h⟩ := chk_s h
    refine x_getI (pc := 29) C fX7_161 rfl k dX7_sumAllShares_29 ?_
    refine x_icmp_ge (pc := 32) (tgt := 67) C dX7_sumAllShares_32 (by decide) (fun q => ?_) (fun q => ?_)
    · rw [if_pos q] at h
      exact x_sub (tX7_sumAllShares_67 C hr hK6 h) (xLe_s (xLe_s (xLe_n xLe_0)))
    · rw [if_neg q] at h
      refine x_aload_n (pc := 35) C dX7_sumAllShares_35 rfl rfl ?_
      obtain ⟨k, h⟩ := chk_s h
      have k2 := k
      obtain ⟨k, h⟩ := chk_s h
      refine x_getR (pc := 36) C fX7_62 rfl k2 k dX7_sumAllShares_36 ?_
      refine x_aload_n (pc := 39) C dX7_sumAllShares_39 rfl rfl ?_
      obtain ⟨k, h⟩ := chk_s h
      have k2 := k
      obtain ⟨k, h⟩ := chk_s h
      refine x_getR (pc := 40) C fX7_48 rfl k2 k dX7_sumAllShares_40 ?_
      obtain ⟨k, h⟩ := chk_s h
      have k2 := k
      obtain ⟨k, h⟩ := chk_s h
      refine x_getR (pc := 43) C fX7_228 rfl k2 k dX7_sumAllShares_43 ?_
      refine x_iload_n (pc := 46) C dX7_sumAllShares_46 rfl rfl ?_
      obtain ⟨k, h⟩ := chk_s h
      refine x_iald (pc := 47) C k dX7_sumAllShares_47 ?_
      refine x_dup2 (pc := 48) C dX7_sumAllShares_48 rfl rfl ?_
      obtain ⟨k, h⟩ := chk_s h
      refine x_iald (pc := 49) C k dX7_sumAllShares_49 ?_
      refine x_aload_n (pc := 50) C dX7_sumAllShares_50 rfl rfl ?_
      obtain ⟨k, h⟩ := chk_s h
      have k2 := k
      obtain ⟨k, h⟩ := chk_s h
      refine x_getR (pc := 51) C fX7_48 rfl k2 k dX7_sumAllShares_51 ?_
      obtain ⟨k, h⟩ := chk_s h
      have k2 := k
      obtain ⟨k, h⟩ := chk_s h
      refine x_getR (pc := 54) C fX7_225 rfl k2 k dX7_sumAllShares_54 ?_
      refine x_iload_n (pc := 57) C dX7_sumAllShares_57 rfl rfl ?_
      obtain ⟨k, h⟩ := chk_s h
      refine x_iald (pc := 58) C k dX7_sumAllShares_58 ?_
      refine x_iadd (pc := 59) C dX7_sumAllShares_59 ?_
      obtain ⟨k, h⟩ := chk_s h
      obtain ⟨σ1, e1, h⟩ := wlet_s h
      refine x_iast (pc := 60) C k dX7_sumAllShares_60 (x_eq e1 ?_)
      refine x_iinc (v := 1) (M := [some _, some _, some _]) (pc := 61) C dX7_sumAllShares_61 rfl (by decide) (by decide) rfl ?_
      refine x_goto (tgt := 24) (pc := 64) C dX7_sumAllShares_64 (by decide) ?_
      exact x_sub (ih _ _ _ _ h) (xLe_s (xLe_s (xLe_s xLe_0)))
def DX7_sumAllShares_73 (σ : Sg) : Option (Unit × Sg) :=
  some ((), σ)
theorem tX7_sumAllShares_73 {r : Unit} {σ' : Sg} (C : Cx E p s m args meth c RX7 cX7_sumAllShares 3) (hr : meth.sig.returnType = none) {σ : Sg} (h : DX7_sumAllShares_73  σ = some (r, σ')) : Y E p l e (rmA 6 0 0) s m args below meth c none σ' 0 0 3 0 0 σ 73 [none, none, none] [] := by
  unfold DX7_sumAllShares_73 at h
  cases h
  exact x_vret C hr dX7_sumAllShares_73
def DX7_sumAllShares_6 : Nat → Nat → Int32 → Sg → Option (Unit × Sg)
  | 0, _, _, _ => none
  | n + 1, l0, l1, σ =>
    chk (ckO σ 5 l0) <|
    chk (ckV (gR σ l0 2)) <|
    chk (ckO σ 0 (gR σ l0 2)) <|
    if (gI σ (gR σ l0 2) 9) ≤ l1 then
      DX7_sumAllShares_73 σ
    else
      chk (ckO σ 5 l0) <|
      bnd (DX7_prorateNow l0 l1 σ) fun _ σ1 =>
      DX7_sumAllShares_24 (DX7_sumAllShares_6 n) FU l0 l1 (0 : Int32) σ1
theorem tX7_sumAllShares_6 {r : Unit} {σ' : Sg} (C : Cx E p s m args meth c RX7 cX7_sumAllShares 3) (hr : meth.sig.returnType = none) : ∀ (n : Nat) (l0 : Nat) (l1 : Int32) (σ : Sg) (h : DX7_sumAllShares_6 n l0 l1 σ = some (r, σ')), Y E p l e (rmA 6 0 0) s m args below meth c none σ' 0 0 3 0 0 σ 6 [some (.ref (ad E l0)), some (.int l1), none] [] := by
  intro n
  induction n with
  | zero => intro l0 l1 σ h; cases h
  | succ n ih =>
    intro l0 l1 σ h
    unfold DX7_sumAllShares_6 at h
    refine x_iload_n (pc := 6) C dX7_sumAllShares_6 rfl rfl ?_
    refine x_aload_n (pc := 7) C dX7_sumAllShares_7 rfl rfl ?_
    obtain ⟨k, h⟩ := chk_s h
    have k2 := k
    obtain ⟨k, h⟩ := chk_s h
    refine x_getR (pc := 8) C fX7_20 rfl k2 k dX7_sumAllShares_8 ?_
    obtain ⟨k, h⟩ := chk_s h
    refine x_getI (pc := 11) C fX7_100 rfl k dX7_sumAllShares_11 ?_
    refine x_icmp_ge (pc := 14) (tgt := 73) C dX7_sumAllShares_14 (by decide) (fun q => ?_) (fun q => ?_)
    · rw [if_pos q] at h
      exact x_sub (tX7_sumAllShares_73 C hr h) (xLe_n (xLe_n (xLe_n xLe_0)))
    · rw [if_neg q] at h
      refine x_aload_n (pc := 17) C dX7_sumAllShares_17 rfl rfl ?_
      refine x_iload_n (pc := 18) C dX7_sumAllShares_18 rfl rfl ?_
      obtain ⟨k, h⟩ := chk_s h
      have k2 := k
      obtain ⟨u0, σ1, k, h⟩ := bnd_s h
      refine x_callV0 (pc := 19) C (mX7_prorateNow E l k) cl5 k2 cX7_158 nX7_prorateNow sX7_prorateNow rfl rfl (Nat.le_of_ble_eq_true rfl) ⟨Nat.le_of_ble_eq_true rfl, Nat.le_of_ble_eq_true rfl, Nat.le_of_ble_eq_true rfl, Nat.le_of_ble_eq_true rfl⟩ dX7_sumAllShares_19 ?_
      refine x_iconst (v := 0) (pc := 22) C dX7_sumAllShares_22 (by decide) ?_
      refine x_istore_n (M := [some _, some _, some _]) (pc := 23) C dX7_sumAllShares_23 rfl (by decide) rfl ?_
      exact x_sub (tX7_sumAllShares_24 C hr ih FU _ _ _ _ h) (xLe_s (xLe_s (xLe_s xLe_0)))
def DX7_sumAllShares (l0 : Nat) (σ : Sg) : Option (Unit × Sg) :=
  chk (ckO σ 5 l0) <|
  bnd (DX7_clearSums l0 σ) fun _ σ1 =>
  DX7_sumAllShares_6 FU l0 (0 : Int32) σ1
theorem mX7_sumAllShares (E : Ev) (l : Launch) {l0 : Nat} {σ : Sg} {r : Unit} {σ' : Sg} (h : DX7_sumAllShares l0 σ = some (r, σ')) : Mt E l yX7_sumAllShares cX7_sumAllShares 3 none 6 0 0 [.ref (ad E l0)] σ none σ' := by
  refine Mt.ofX (by decide) (Nat.le_of_ble_eq_true rfl) (L0 := [some (.ref (ad E l0)), none, none]) (xEntN_ok [.ref (ad E l0)] 3) (fun p e s m args below meth c C hr hn => ?_)
  unfold DX7_sumAllShares at h
  refine x_aload_n (pc := 0) C dX7_sumAllShares_0 rfl rfl ?_
  obtain ⟨k, h⟩ := chk_s h
  have k2 := k
  obtain ⟨u0, σ1, k, h⟩ := bnd_s h
  refine x_callV0 (pc := 1) C (mX7_clearSums E l k) cl5 k2 cX7_258 nX7_clearSums sX7_clearSums rfl rfl (Nat.le_of_ble_eq_true rfl) ⟨Nat.le_of_ble_eq_true rfl, Nat.le_of_ble_eq_true rfl, Nat.le_of_ble_eq_true rfl, Nat.le_of_ble_eq_true rfl⟩ dX7_sumAllShares_1 ?_
  refine x_iconst (v := 0) (pc := 4) C dX7_sumAllShares_4 (by decide) ?_
  refine x_istore_n (M := [some _, some _, none]) (pc := 5) C dX7_sumAllShares_5 rfl (by decide) rfl ?_
  exact x_sub (tX7_sumAllShares_6 C hr FU _ _ _ h) (xLe_s (xLe_s (xLe_n xLe_0)))
def DX7_carriersAhead_53 (K4 : Nat → Int32 → Int32 → Int32 → Sg → Option (Int32 × Sg)) (l0 : Nat) (l1 : Int32) (l2 : Int32) (l3 : Int32) (σ : Sg) : Option (Int32 × Sg) :=
  K4 l0 l1 l2 (l3 + (1 : Int32)) σ
theorem tX7_carriersAhead_53 {r : Int32} {σ' : Sg} (C : Cx E p s m args meth c RX7 cX7_carriersAhead 4) (hr : meth.sig.returnType = (some .int)) {K4 : Nat → Int32 → Int32 → Int32 → Sg → Option (Int32 × Sg)} (hK4 : ∀ (l0 : Nat) (l1 : Int32) (l2 : Int32) (l3 : Int32) (σ : Sg), K4 l0 l1 l2 l3 σ = some (r, σ') → Y E p l e (rmA 1 0 0) s m args below meth c (some (.int r)) σ' 0 0 4 0 0 σ 4 [some (.ref (ad E l0)), some (.int l1), some (.int l2), some (.int l3)] []) {l0 : Nat} {l1 : Int32} {l2 : Int32} {l3 : Int32} {σ : Sg} (h : DX7_carriersAhead_53 K4 l0 l1 l2 l3 σ = some (r, σ')) : Y E p l e (rmA 1 0 0) s m args below meth c (some (.int r)) σ' 0 0 4 0 0 σ 53 [some (.ref (ad E l0)), some (.int l1), some (.int l2), some (.int l3)] [] := by
  unfold DX7_carriersAhead_53 at h
  refine x_iinc (v := 1) (M := [some _, some _, some _, some _]) (pc := 53) C dX7_carriersAhead_53 rfl (by decide) (by decide) rfl ?_
  refine x_goto (tgt := 4) (pc := 56) C dX7_carriersAhead_56 (by decide) ?_
  exact x_sub (hK4 _ _ _ _ _ h) (xLe_s (xLe_s (xLe_s (xLe_s xLe_0))))
def DX7_carriersAhead_50 (K4 : Nat → Int32 → Int32 → Int32 → Sg → Option (Int32 × Sg)) (l0 : Nat) (l1 : Int32) (l2 : Int32) (l3 : Int32) (σ : Sg) : Option (Int32 × Sg) :=
  DX7_carriersAhead_53 K4 l0 l1 (l2 + (1 : Int32)) l3 σ
theorem tX7_carriersAhead_50 {r : Int32} {σ' : Sg} (C : Cx E p s m args meth c RX7 cX7_carriersAhead 4) (hr : meth.sig.returnType = (some .int)) {K4 : Nat → Int32 → Int32 → Int32 → Sg → Option (Int32 × Sg)} (hK4 : ∀ (l0 : Nat) (l1 : Int32) (l2 : Int32) (l3 : Int32) (σ : Sg), K4 l0 l1 l2 l3 σ = some (r, σ') → Y E p l e (rmA 1 0 0) s m args below meth c (some (.int r)) σ' 0 0 4 0 0 σ 4 [some (.ref (ad E l0)), some (.int l1), some (.int l2), some (.int l3)] []) {l0 : Nat} {l1 : Int32} {l2 : Int32} {l3 : Int32} {σ : Sg} (h : DX7_carriersAhead_50 K4 l0 l1 l2 l3 σ = some (r, σ')) : Y E p l e (rmA 1 0 0) s m args below meth c (some (.int r)) σ' 0 0 4 0 0 σ 50 [some (.ref (ad E l0)), some (.int l1), some (.int l2), some (.int l3)] [] := by
  unfold DX7_carriersAhead_50 at h
  refine x_iinc (v := 1) (M := [some _, some _, some _, some _]) (pc := 50) C dX7_carriersAhead_50 rfl (by decide) (by decide) rfl ?_
  exact x_sub (tX7_carriersAhead_53 C hr hK4 h) (xLe_s (xLe_s (xLe_s (xLe_s xLe_0))))
def DX7_carriersAhead_59 (l2 : Int32) (σ : Sg) : Option (Int32 × Sg) :=
  some (l2, σ)
theorem tX7_carriersAhead_59 {r : Int32} {σ' : Sg} (C : Cx E p s m args meth c RX7 cX7_carriersAhead 4) (hr : meth.sig.returnType = (some .int)) {l2 : Int32} {σ : Sg} (h : DX7_carriersAhead_59 l2 σ = some (r, σ')) : Y E p l e (rmA 1 0 0) s m args below meth c (some (.int r)) σ' 0 0 4 0 0 σ 59 [none, none, some (.int l2), none] [] := by
  unfold DX7_carriersAhead_59 at h
  refine x_iload_n (pc := 59) C dX7_carriersAhead_59 rfl rfl ?_
  cases h
  exact x_iret C hr dX7_carriersAhead_60
def DX7_carriersAhead_4 : Nat → Nat → Int32 → Int32 → Int32 → Sg → Option (Int32 × Sg)
  | 0, _, _, _, _, _ => none
  | n + 1, l0, l1, l2, l3, σ =>
    chk (ckO σ 5 l0) <|
    chk (ckV (gR σ l0 2)) <|
    chk (ckO σ 0 (gR σ l0 2)) <|
    if (gI σ (gR σ l0 2) 2) ≤ l3 then
      DX7_carriersAhead_59 l2 σ
    else
      chk (ckO σ 5 l0) <|
      chk (ckV (gR σ l0 9)) <|
      chk (ckI σ (gR σ l0 9) l3) <|
      chk (ckO σ 5 l0) <|
      chk (ckV (gR σ l0 9)) <|
      chk (ckI σ (gR σ l0 9) l1) <|
      if (aI σ (gR σ l0 9) l1.toNatClampNeg) < (aI σ (gR σ l0 9) l3.toNatClampNeg) then
        DX7_carriersAhead_50 (DX7_carriersAhead_4 n) l0 l1 l2 l3 σ
      else
        chk (ckO σ 5 l0) <|
        chk (ckV (gR σ l0 9)) <|
        chk (ckI σ (gR σ l0 9) l3) <|
        chk (ckO σ 5 l0) <|
        chk (ckV (gR σ l0 9)) <|
        chk (ckI σ (gR σ l0 9) l1) <|
        if (aI σ (gR σ l0 9) l3.toNatClampNeg) = (aI σ (gR σ l0 9) l1.toNatClampNeg) then
          if l1 ≤ l3 then
            DX7_carriersAhead_53 (DX7_carriersAhead_4 n) l0 l1 l2 l3 σ
          else
            DX7_carriersAhead_50 (DX7_carriersAhead_4 n) l0 l1 l2 l3 σ
        else
          DX7_carriersAhead_53 (DX7_carriersAhead_4 n) l0 l1 l2 l3 σ
theorem tX7_carriersAhead_4 {r : Int32} {σ' : Sg} (C : Cx E p s m args meth c RX7 cX7_carriersAhead 4) (hr : meth.sig.returnType = (some .int)) : ∀ (n : Nat) (l0 : Nat) (l1 : Int32) (l2 : Int32) (l3 : Int32) (σ : Sg) (h : DX7_carriersAhead_4 n l0 l1 l2 l3 σ = some (r, σ')), Y E p l e (rmA 1 0 0) s m args below meth c (some (.int r)) σ' 0 0 4 0 0 σ 4 [some (.ref (ad E l0)), some (.int l1), some (.int l2), some (.int l3)] [] := by
  intro n
  induction n with
  | zero => intro l0 l1 l2 l3 σ h; cases h
  | succ n ih =>
    intro l0 l1 l2 l3 σ h
    unfold DX7_carriersAhead_4 at h
    refine x_iload_n (pc := 4) C dX7_carriersAhead_4 rfl rfl ?_
    refine x_aload_n (pc := 5) C dX7_carriersAhead_5 rfl rfl ?_
    obtain ⟨k, h⟩ := chk_s h
    have k2 := k
    obtain ⟨k, h⟩ := chk_s h
    refine x_getR (pc := 6) C fX7_20 rfl k2 k dX7_carriersAhead_6 ?_
    obtain ⟨k, h⟩ := chk_s h
    refine x_getI (pc := 9) C fX7_94 rfl k dX7_carriersAhead_9 ?_
    refine x_icmp_ge (pc := 12) (tgt := 59) C dX7_carriersAhead_12 (by decide) (fun q => ?_) (fun q => ?_)
    · rw [if_pos q] at h
      exact x_sub (tX7_carriersAhead_59 C hr h) (xLe_n (xLe_n (xLe_s (xLe_n xLe_0))))
    · rw [if_neg q] at h
      refine x_aload_n (pc := 15) C dX7_carriersAhead_15 rfl rfl ?_
      obtain ⟨k, h⟩ := chk_s h
      have k2 := k
      obtain ⟨k, h⟩ := chk_s h
      refine x_getR (pc := 16) C fX7_62 rfl k2 k dX7_carriersAhead_16 ?_
      refine x_iload_n (pc := 19) C dX7_carriersAhead_19 rfl rfl ?_
      obtain ⟨k, h⟩ := chk_s h
      refine x_iald (pc := 20) C k dX7_carriersAhead_20 ?_
      refine x_aload_n (pc := 21) C dX7_carriersAhead_21 rfl rfl ?_
      obtain ⟨k, h⟩ := chk_s h
      have k2 := k
      obtain ⟨k, h⟩ := chk_s h
      refine x_getR (pc := 22) C fX7_62 rfl k2 k dX7_carriersAhead_22 ?_
      refine x_iload_n (pc := 25) C dX7_carriersAhead_25 rfl rfl ?_
      obtain ⟨k, h⟩ := chk_s h
      refine x_iald (pc := 26) C k dX7_carriersAhead_26 ?_
      refine x_icmp_gt (pc := 27) (tgt := 50) C dX7_carriersAhead_27 (by decide) (fun q => ?_) (fun q => ?_)
      · rw [if_pos q] at h
        exact x_sub (tX7_carriersAhead_50 C hr ih h) (xLe_s (xLe_s (xLe_s (xLe_s xLe_0))))
      · rw [if_neg q] at h
        refine x_aload_n (pc := 30) C dX7_carriersAhead_30 rfl rfl ?_
        obtain ⟨k, h⟩ := chk_s h
        have k2 := k
        obtain ⟨k, h⟩ := chk_s h
        refine x_getR (pc := 31) C fX7_62 rfl k2 k dX7_carriersAhead_31 ?_
        refine x_iload_n (pc := 34) C dX7_carriersAhead_34 rfl rfl ?_
        obtain ⟨k, h⟩ := chk_s h
        refine x_iald (pc := 35) C k dX7_carriersAhead_35 ?_
        refine x_aload_n (pc := 36) C dX7_carriersAhead_36 rfl rfl ?_
        obtain ⟨k, h⟩ := chk_s h
        have k2 := k
        obtain ⟨k, h⟩ := chk_s h
        refine x_getR (pc := 37) C fX7_62 rfl k2 k dX7_carriersAhead_37 ?_
        refine x_iload_n (pc := 40) C dX7_carriersAhead_40 rfl rfl ?_
        obtain ⟨k, h⟩ := chk_s h
        refine x_iald (pc := 41) C k dX7_carriersAhead_41 ?_
        refine x_icmp_ne (pc := 42) (tgt := 53) C dX7_carriersAhead_42 (by decide) (fun q => ?_) (fun q => ?_)
        · rw [if_pos q] at h
          refine x_iload_n (pc := 45) C dX7_carriersAhead_45 rfl rfl ?_
          refine x_iload_n (pc := 46) C dX7_carriersAhead_46 rfl rfl ?_
          refine x_icmp_ge (pc := 47) (tgt := 53) C dX7_carriersAhead_47 (by decide) (fun q => ?_) (fun q => ?_)
          · rw [if_pos q] at h
            exact x_sub (tX7_carriersAhead_53 C hr ih h) (xLe_s (xLe_s (xLe_s (xLe_s xLe_0))))
          · rw [if_neg q] at h
            exact x_sub (tX7_carriersAhead_50 C hr ih h) (xLe_s (xLe_s (xLe_s (xLe_s xLe_0))))
        · rw [if_neg q] at h
          exact x_sub (tX7_carriersAhead_53 C hr ih h) (xLe_s (xLe_s (xLe_s (xLe_s xLe_0))))
def DX7_carriersAhead (l0 : Nat) (l1 : Int32) (σ : Sg) : Option (Int32 × Sg) :=
  DX7_carriersAhead_4 FU l0 l1 (0 : Int32) (0 : Int32) σ
theorem mX7_carriersAhead (E : Ev) (l : Launch) {l0 : Nat} {l1 : Int32} {σ : Sg} {r : Int32} {σ' : Sg} (h : DX7_carriersAhead l0 l1 σ = some (r, σ')) : Mt E l yX7_carriersAhead cX7_carriersAhead 4 (some .int) 1 0 0 [.ref (ad E l0), .int l1] σ (some (.int r)) σ' := by
  refine Mt.ofX (by decide) (Nat.le_of_ble_eq_true rfl) (L0 := [some (.ref (ad E l0)), some (.int l1), none, none]) (xEntN_ok [.ref (ad E l0), .int l1] 4) (fun p e s m args below meth c C hr hn => ?_)
  unfold DX7_carriersAhead at h
  refine x_iconst (v := 0) (pc := 0) C dX7_carriersAhead_0 (by decide) ?_
  refine x_istore_n (M := [some _, some _, some _, none]) (pc := 1) C dX7_carriersAhead_1 rfl (by decide) rfl ?_
  refine x_iconst (v := 0) (pc := 2) C dX7_carriersAhead_2 (by decide) ?_
  refine x_istore_n (M := [some _, some _, some _, some _]) (pc := 3) C dX7_carriersAhead_3 rfl (by decide) rfl ?_
  exact x_sub (tX7_carriersAhead_4 C hr FU _ _ _ _ _ h) (xLe_s (xLe_s (xLe_s (xLe_s xLe_0))))
def DX7_ranked_32 (l2 : Int32) (σ : Sg) : Option (Int32 × Sg) :=
  some (l2, σ)
theorem tX7_ranked_32 {r : Int32} {σ' : Sg} (C : Cx E p s m args meth c RX7 cX7_ranked 3) (hr : meth.sig.returnType = (some .int)) {l2 : Int32} {σ : Sg} (h : DX7_ranked_32 l2 σ = some (r, σ')) : Y E p l e (rmA 7 0 0) s m args below meth c (some (.int r)) σ' 0 0 3 0 0 σ 32 [none, none, some (.int l2)] [] := by
  unfold DX7_ranked_32 at h
  refine x_iload_n (pc := 32) C dX7_ranked_32 rfl rfl ?_
  cases h
  exact x_iret C hr dX7_ranked_33
def DX7_ranked_40 (σ : Sg) : Option (Int32 × Sg) :=
  some ((-2 : Int32), σ)
theorem tX7_ranked_40 {r : Int32} {σ' : Sg} (C : Cx E p s m args meth c RX7 cX7_ranked 3) (hr : meth.sig.returnType = (some .int)) {σ : Sg} (h : DX7_ranked_40  σ = some (r, σ')) : Y E p l e (rmA 7 0 0) s m args below meth c (some (.int r)) σ' 0 0 3 0 0 σ 40 [none, none, none] [] := by
  unfold DX7_ranked_40 at h
  refine x_bipush (v := -2) (pc := 40) C dX7_ranked_40 (by decide) ?_
  cases h
  exact x_iret C hr dX7_ranked_42
def DX7_ranked_12 : Nat → Nat → Int32 → Int32 → Sg → Option (Int32 × Sg)
  | 0, _, _, _, _ => none
  | n + 1, l0, l1, l2, σ =>
    chk (ckO σ 5 l0) <|
    chk (ckV (gR σ l0 2)) <|
    chk (ckO σ 0 (gR σ l0 2)) <|
    if (gI σ (gR σ l0 2) 2) ≤ l2 then
      DX7_ranked_40 σ
    else
      chk (ckO σ 5 l0) <|
      bnd (DX7_carriersAhead l0 l2 σ) fun v1 σ2 =>
      if v1 = l1 then
        DX7_ranked_32 l2 σ2
      else
        DX7_ranked_12 n l0 l1 (l2 + (1 : Int32)) σ2
theorem tX7_ranked_12 {r : Int32} {σ' : Sg} (C : Cx E p s m args meth c RX7 cX7_ranked 3) (hr : meth.sig.returnType = (some .int)) : ∀ (n : Nat) (l0 : Nat) (l1 : Int32) (l2 : Int32) (σ : Sg) (h : DX7_ranked_12 n l0 l1 l2 σ = some (r, σ')), Y E p l e (rmA 7 0 0) s m args below meth c (some (.int r)) σ' 0 0 3 0 0 σ 12 [some (.ref (ad E l0)), some (.int l1), some (.int l2)] [] := by
  intro n
  induction n with
  | zero => intro l0 l1 l2 σ h; cases h
  | succ n ih =>
    intro l0 l1 l2 σ h
    unfold DX7_ranked_12 at h
    refine x_iload_n (pc := 12) C dX7_ranked_12 rfl rfl ?_
    refine x_aload_n (pc := 13) C dX7_ranked_13 rfl rfl ?_
    obtain ⟨k, h⟩ := chk_s h
    have k2 := k
    obtain ⟨k, h⟩ := chk_s h
    refine x_getR (pc := 14) C fX7_20 rfl k2 k dX7_ranked_14 ?_
    obtain ⟨k, h⟩ := chk_s h
    refine x_getI (pc := 17) C fX7_94 rfl k dX7_ranked_17 ?_
    refine x_icmp_ge (pc := 20) (tgt := 40) C dX7_ranked_20 (by decide) (fun q => ?_) (fun q => ?_)
    · rw [if_pos q] at h
      exact x_sub (tX7_ranked_40 C hr h) (xLe_n (xLe_n (xLe_n xLe_0)))
    · rw [if_neg q] at h
      refine x_aload_n (pc := 23) C dX7_ranked_23 rfl rfl ?_
      refine x_iload_n (pc := 24) C dX7_ranked_24 rfl rfl ?_
      obtain ⟨k, h⟩ := chk_s h
      have k2 := k
      obtain ⟨v1, σ2, k, h⟩ := bnd_s h
      refine x_callV1 (pc := 25) C (mX7_carriersAhead E l k) cl5 k2 cX7_334 nX7_carriersAhead sX7_carriersAhead rfl rfl (Nat.le_of_ble_eq_true rfl) ⟨Nat.le_of_ble_eq_true rfl, Nat.le_of_ble_eq_true rfl, Nat.le_of_ble_eq_true rfl, Nat.le_of_ble_eq_true rfl⟩ dX7_ranked_25 ?_
      refine x_iload_n (pc := 28) C dX7_ranked_28 rfl rfl ?_
      refine x_icmp_ne (pc := 29) (tgt := 34) C dX7_ranked_29 (by decide) (fun q => ?_) (fun q => ?_)
      · rw [if_pos q] at h
        exact x_sub (tX7_ranked_32 C hr h) (xLe_n (xLe_n (xLe_s xLe_0)))
      · rw [if_neg q] at h
        refine x_iinc (v := 1) (M := [some _, some _, some _]) (pc := 34) C dX7_ranked_34 rfl (by decide) (by decide) rfl ?_
        refine x_goto (tgt := 12) (pc := 37) C dX7_ranked_37 (by decide) ?_
        exact x_sub (ih _ _ _ _ h) (xLe_s (xLe_s (xLe_s xLe_0)))
def DX7_ranked (l0 : Nat) (l1 : Int32) (σ : Sg) : Option (Int32 × Sg) :=
  if 0 ≤ l1 then
    chk (ckO σ 5 l0) <|
    bnd (DX7_sumAllShares l0 σ) fun _ σ1 =>
    DX7_ranked_12 FU l0 l1 (0 : Int32) σ1
  else
    some ((-1 : Int32), σ)
theorem mX7_ranked (E : Ev) (l : Launch) {l0 : Nat} {l1 : Int32} {σ : Sg} {r : Int32} {σ' : Sg} (h : DX7_ranked l0 l1 σ = some (r, σ')) : Mt E l yX7_ranked cX7_ranked 3 (some .int) 7 0 0 [.ref (ad E l0), .int l1] σ (some (.int r)) σ' := by
  refine Mt.ofX (by decide) (Nat.le_of_ble_eq_true rfl) (L0 := [some (.ref (ad E l0)), some (.int l1), none]) (xEntN_ok [.ref (ad E l0), .int l1] 3) (fun p e s m args below meth c C hr hn => ?_)
  unfold DX7_ranked at h
  refine x_iload_n (pc := 0) C dX7_ranked_0 rfl rfl ?_
  refine x_if_ge (pc := 1) (tgt := 6) C dX7_ranked_1 (by decide) (fun q => ?_) (fun q => ?_)
  · rw [if_pos q] at h
    refine x_aload_n (pc := 6) C dX7_ranked_6 rfl rfl ?_
    obtain ⟨k, h⟩ := chk_s h
    have k2 := k
    obtain ⟨u0, σ1, k, h⟩ := bnd_s h
    refine x_callV0 (pc := 7) C (mX7_sumAllShares E l k) cl5 k2 cX7_331 nX7_sumAllShares sX7_sumAllShares rfl rfl (Nat.le_of_ble_eq_true rfl) ⟨Nat.le_of_ble_eq_true rfl, Nat.le_of_ble_eq_true rfl, Nat.le_of_ble_eq_true rfl, Nat.le_of_ble_eq_true rfl⟩ dX7_ranked_7 ?_
    refine x_iconst (v := 0) (pc := 10) C dX7_ranked_10 (by decide) ?_
    refine x_istore_n (M := [some _, some _, some _]) (pc := 11) C dX7_ranked_11 rfl (by decide) rfl ?_
    exact x_sub (tX7_ranked_12 C hr FU _ _ _ _ h) (xLe_s (xLe_s (xLe_s xLe_0)))
  · rw [if_neg q] at h
    refine x_iconst (v := -1) (pc := 4) C dX7_ranked_4 (by decide) ?_
    cases h
    exact x_iret C hr dX7_ranked_5
def DX7_most_17 (σ : Sg) : Option (Int32 × Sg) :=
  some ((-1 : Int32), σ)
theorem tX7_most_17 {r : Int32} {σ' : Sg} (C : Cx E p s m args meth c RX7 cX7_most 7) (hr : meth.sig.returnType = (some .int)) {σ : Sg} (h : DX7_most_17  σ = some (r, σ')) : Y E p l e (rmA 6 0 0) s m args below meth c (some (.int r)) σ' 0 0 7 0 0 σ 17 [none, none, none, none, none, none, none] [] := by
  unfold DX7_most_17 at h
  refine x_iconst (v := -1) (pc := 17) C dX7_most_17 (by decide) ?_
  cases h
  exact x_iret C hr dX7_most_18
def DX7_most_104 (K52 : Nat → Int32 → Int32 → Int32 → Int32 → Sg → Option (Int32 × Sg)) (l0 : Nat) (l2 : Int32) (l3 : Int32) (l4 : Int32) (l5 : Int32) (σ : Sg) : Option (Int32 × Sg) :=
  K52 l0 l2 l3 l4 (l5 + (1 : Int32)) σ
theorem tX7_most_104 {r : Int32} {σ' : Sg} (C : Cx E p s m args meth c RX7 cX7_most 7) (hr : meth.sig.returnType = (some .int)) {K52 : Nat → Int32 → Int32 → Int32 → Int32 → Sg → Option (Int32 × Sg)} (hK52 : ∀ (l0 : Nat) (l2 : Int32) (l3 : Int32) (l4 : Int32) (l5 : Int32) (σ : Sg), K52 l0 l2 l3 l4 l5 σ = some (r, σ') → Y E p l e (rmA 6 0 0) s m args below meth c (some (.int r)) σ' 0 0 7 0 0 σ 52 [some (.ref (ad E l0)), none, some (.int l2), some (.int l3), some (.int l4), some (.int l5), none] []) {l0 : Nat} {l2 : Int32} {l3 : Int32} {l4 : Int32} {l5 : Int32} {σ : Sg} (h : DX7_most_104 K52 l0 l2 l3 l4 l5 σ = some (r, σ')) : Y E p l e (rmA 6 0 0) s m args below meth c (some (.int r)) σ' 0 0 7 0 0 σ 104 [some (.ref (ad E l0)), none, some (.int l2), some (.int l3), some (.int l4), some (.int l5), none] [] := by
  unfold DX7_most_104 at h
  refine x_iinc (v := 1) (M := [some _, none, some _, some _, some _, some _, none]) (pc := 104) C dX7_most_104 rfl (by decide) (by decide) rfl ?_
  refine x_goto (tgt := 52) (pc := 107) C dX7_most_107 (by decide) ?_
  exact x_sub (hK52 _ _ _ _ _ _ h) (xLe_s (xLe_n (xLe_s (xLe_s (xLe_s (xLe_s (xLe_n xLe_0)))))))
def DX7_most_120 (s0 : Int32) (σ : Sg) : Option (Int32 × Sg) :=
  some (s0, σ)
theorem tX7_most_120 {r : Int32} {σ' : Sg} (C : Cx E p s m args meth c RX7 cX7_most 7) (hr : meth.sig.returnType = (some .int)) {s0 : Int32} {σ : Sg} (h : DX7_most_120 s0 σ = some (r, σ')) : Y E p l e (rmA 6 0 0) s m args below meth c (some (.int r)) σ' 0 0 7 0 0 σ 120 [none, none, none, none, none, none, none] [.int s0] := by
  unfold DX7_most_120 at h
  cases h
  exact x_iret C hr dX7_most_120
def DX7_most_110 (l2 : Int32) (l3 : Int32) (l4 : Int32) (σ : Sg) : Option (Int32 × Sg) :=
  if l2 = 0 then
    DX7_most_120 l3 σ
  else
    DX7_most_120 l4 σ
theorem tX7_most_110 {r : Int32} {σ' : Sg} (C : Cx E p s m args meth c RX7 cX7_most 7) (hr : meth.sig.returnType = (some .int)) {l2 : Int32} {l3 : Int32} {l4 : Int32} {σ : Sg} (h : DX7_most_110 l2 l3 l4 σ = some (r, σ')) : Y E p l e (rmA 6 0 0) s m args below meth c (some (.int r)) σ' 0 0 7 0 0 σ 110 [none, none, some (.int l2), some (.int l3), some (.int l4), none, none] [] := by
  unfold DX7_most_110 at h
  refine x_iload_n (pc := 110) C dX7_most_110 rfl rfl ?_
  refine x_if_ne (pc := 111) (tgt := 118) C dX7_most_111 (by decide) (fun q => ?_) (fun q => ?_)
  · rw [if_pos q] at h
    refine x_iload_n (pc := 114) C dX7_most_114 rfl rfl ?_
    refine x_goto (tgt := 120) (pc := 115) C dX7_most_115 (by decide) ?_
    exact x_sub (tX7_most_120 C hr h) (xLe_n (xLe_n (xLe_n (xLe_n (xLe_n (xLe_n (xLe_n xLe_0)))))))
  · rw [if_neg q] at h
    refine x_iload (pc := 118) C dX7_most_118 rfl ?_
    exact x_sub (tX7_most_120 C hr h) (xLe_n (xLe_n (xLe_n (xLe_n (xLe_n (xLe_n (xLe_n xLe_0)))))))
def DX7_most_52 : Nat → Nat → Int32 → Int32 → Int32 → Int32 → Sg → Option (Int32 × Sg)
  | 0, _, _, _, _, _, _ => none
  | n + 1, l0, l2, l3, l4, l5, σ =>
    chk (ckO σ 5 l0) <|
    chk (ckV (gR σ l0 6)) <|
    chk (ckO σ 4 (gR σ l0 6)) <|
    if (gI σ (gR σ l0 6) 2) ≤ l5 then
      DX7_most_110 l2 l3 l4 σ
    else
      chk (ckO σ 5 l0) <|
      chk (ckV (gR σ l0 8)) <|
      chk (ckI σ (gR σ l0 8) l5) <|
      chk (ckO σ 5 l0) <|
      chk (ckV (gR σ l0 6)) <|
      chk (ckO σ 4 (gR σ l0 6)) <|
      chk (ckV (gR σ (gR σ l0 6) 12)) <|
      chk (ckI σ (gR σ (gR σ l0 6) 12) l5) <|
      if (iabs ((aI σ (gR σ l0 8) l5.toNatClampNeg) - (aI σ (gR σ (gR σ l0 6) 12) l5.toNatClampNeg))) ≤ (iabs l4) then
        DX7_most_104 (DX7_most_52 n) l0 l2 l3 l4 l5 σ
      else
        DX7_most_104 (DX7_most_52 n) l0 l2 l5 ((aI σ (gR σ l0 8) l5.toNatClampNeg) - (aI σ (gR σ (gR σ l0 6) 12) l5.toNatClampNeg)) l5 σ
theorem tX7_most_52 {r : Int32} {σ' : Sg} (C : Cx E p s m args meth c RX7 cX7_most 7) (hr : meth.sig.returnType = (some .int)) : ∀ (n : Nat) (l0 : Nat) (l2 : Int32) (l3 : Int32) (l4 : Int32) (l5 : Int32) (σ : Sg) (h : DX7_most_52 n l0 l2 l3 l4 l5 σ = some (r, σ')), Y E p l e (rmA 6 0 0) s m args below meth c (some (.int r)) σ' 0 0 7 0 0 σ 52 [some (.ref (ad E l0)), none, some (.int l2), some (.int l3), some (.int l4), some (.int l5), none] [] := by
  intro n
  induction n with
  | zero => intro l0 l2 l3 l4 l5 σ h; cases h
  | succ n ih =>
    intro l0 l2 l3 l4 l5 σ h
    unfold DX7_most_52 at h
    refine x_iload (pc := 52) C dX7_most_52 rfl ?_
    refine x_aload_n (pc := 54) C dX7_most_54 rfl rfl ?_
    obtain ⟨k, h⟩ := chk_s h
    have k2 := k
    obtain ⟨k, h⟩ := chk_s h
    refine x_getR (pc := 55) C fX7_48 rfl k2 k dX7_most_55 ?_
    obtain ⟨k, h⟩ := chk_s h
    refine x_getI (pc := 58) C fX7_161 rfl k dX7_most_58 ?_
    refine x_icmp_ge (pc := 61) (tgt := 110) C dX7_most_61 (by decide) (fun q => ?_) (fun q => ?_)
    · rw [if_pos q] at h
      exact x_sub (tX7_most_110 C hr h) (xLe_n (xLe_n (xLe_s (xLe_s (xLe_s (xLe_n (xLe_n xLe_0)))))))
    · rw [if_neg q] at h
      refine x_aload_n (pc := 64) C dX7_most_64 rfl rfl ?_
      obtain ⟨k, h⟩ := chk_s h
      have k2 := k
      obtain ⟨k, h⟩ := chk_s h
      refine x_getR (pc := 65) C fX7_59 rfl k2 k dX7_most_65 ?_
      refine x_iload (pc := 68) C dX7_most_68 rfl ?_
      obtain ⟨k, h⟩ := chk_s h
      refine x_iald (pc := 70) C k dX7_most_70 ?_
      refine x_aload_n (pc := 71) C dX7_most_71 rfl rfl ?_
      obtain ⟨k, h⟩ := chk_s h
      have k2 := k
      obtain ⟨k, h⟩ := chk_s h
      refine x_getR (pc := 72) C fX7_48 rfl k2 k dX7_most_72 ?_
      obtain ⟨k, h⟩ := chk_s h
      have k2 := k
      obtain ⟨k, h⟩ := chk_s h
      refine x_getR (pc := 75) C fX7_225 rfl k2 k dX7_most_75 ?_
      refine x_iload (pc := 78) C dX7_most_78 rfl ?_
      obtain ⟨k, h⟩ := chk_s h
      refine x_iald (pc := 80) C k dX7_most_80 ?_
      refine x_isub (pc := 81) C dX7_most_81 ?_
      refine x_istore (M := [some _, none, some _, some _, some _, some _, some _]) (pc := 82) C dX7_most_82 (by decide) rfl ?_
      refine x_iload (pc := 84) C dX7_most_84 rfl ?_
      refine x_mabs (pc := 86) C oX7_337 mmabs1 mmi mmabs2 ⟨Nat.le_of_ble_eq_true rfl, Nat.le_of_ble_eq_true rfl, Nat.le_of_ble_eq_true rfl, Nat.le_of_ble_eq_true rfl⟩ dX7_most_86 ?_
      refine x_iload (pc := 89) C dX7_most_89 rfl ?_
      refine x_mabs (pc := 91) C oX7_337 mmabs1 mmi mmabs2 ⟨Nat.le_of_ble_eq_true rfl, Nat.le_of_ble_eq_true rfl, Nat.le_of_ble_eq_true rfl, Nat.le_of_ble_eq_true rfl⟩ dX7_most_91 ?_
      refine x_icmp_le (pc := 94) (tgt := 104) C dX7_most_94 (by decide) (fun q => ?_) (fun q => ?_)
      · rw [if_pos q] at h
        exact x_sub (tX7_most_104 C hr ih h) (xLe_s (xLe_n (xLe_s (xLe_s (xLe_s (xLe_s (xLe_n xLe_0)))))))
      · rw [if_neg q] at h
        refine x_iload (pc := 97) C dX7_most_97 rfl ?_
        refine x_istore (M := [some _, none, some _, some _, some _, some _, some _]) (pc := 99) C dX7_most_99 (by decide) rfl ?_
        refine x_iload (pc := 101) C dX7_most_101 rfl ?_
        refine x_istore_n (M := [some _, none, some _, some _, some _, some _, some _]) (pc := 103) C dX7_most_103 rfl (by decide) rfl ?_
        exact x_sub (tX7_most_104 C hr ih h) (xLe_s (xLe_n (xLe_s (xLe_s (xLe_s (xLe_s (xLe_n xLe_0)))))))
def DX7_most (l0 : Nat) (l1 : Int32) (l2 : Int32) (σ : Sg) : Option (Int32 × Sg) :=
  chk (ckO σ 5 l0) <|
  bnd (DX7_isTicket l0 l1 σ) fun v1 σ2 =>
  if v1 = 0 then
    DX7_most_17 σ2
  else
    if l2 < 0 then
      DX7_most_17 σ2
    else
      if l2 ≤ (1 : Int32) then
        chk (ckO σ2 5 l0) <|
        bnd (DX7_keepSharesBefore l0 l1 σ2) fun _ σ3 =>
        chk (ckO σ3 5 l0) <|
        bnd (DX7_prorateStraight l0 l1 σ3) fun _ σ4 =>
        chk (ckO σ4 5 l0) <|
        chk (ckV (gR σ4 l0 8)) <|
        chk (ckI σ4 (gR σ4 l0 8) (0 : Int32)) <|
        chk (ckO σ4 5 l0) <|
        chk (ckV (gR σ4 l0 6)) <|
        chk (ckO σ4 4 (gR σ4 l0 6)) <|
        chk (ckV (gR σ4 (gR σ4 l0 6) 12)) <|
        chk (ckI σ4 (gR σ4 (gR σ4 l0 6) 12) (0 : Int32)) <|
        DX7_most_52 FU l0 l2 (0 : Int32) ((aI σ4 (gR σ4 l0 8) (0 : Int32).toNatClampNeg) - (aI σ4 (gR σ4 (gR σ4 l0 6) 12) (0 : Int32).toNatClampNeg)) (1 : Int32) σ4
      else
        DX7_most_17 σ2
theorem mX7_most (E : Ev) (l : Launch) {l0 : Nat} {l1 : Int32} {l2 : Int32} {σ : Sg} {r : Int32} {σ' : Sg} (h : DX7_most l0 l1 l2 σ = some (r, σ')) : Mt E l yX7_most cX7_most 7 (some .int) 6 0 0 [.ref (ad E l0), .int l1, .int l2] σ (some (.int r)) σ' := by
  refine Mt.ofX (by decide) (Nat.le_of_ble_eq_true rfl) (L0 := [some (.ref (ad E l0)), some (.int l1), some (.int l2), none, none, none, none]) (xEntN_ok [.ref (ad E l0), .int l1, .int l2] 7) (fun p e s m args below meth c C hr hn => ?_)
  unfold DX7_most at h
  refine x_aload_n (pc := 0) C dX7_most_0 rfl rfl ?_
  refine x_iload_n (pc := 1) C dX7_most_1 rfl rfl ?_
  obtain ⟨k, h⟩ := chk_s h
  have k2 := k
  obtain ⟨v1, σ2, k, h⟩ := bnd_s h
  refine x_callV1 (pc := 2) C (mX7_isTicket E l k) cl5 k2 cX7_103 nX7_isTicket sX7_isTicket rfl rfl (Nat.le_of_ble_eq_true rfl) ⟨Nat.le_of_ble_eq_true rfl, Nat.le_of_ble_eq_true rfl, Nat.le_of_ble_eq_true rfl, Nat.le_of_ble_eq_true rfl⟩ dX7_most_2 ?_
  refine x_if_eq (pc := 5) (tgt := 17) C dX7_most_5 (by decide) (fun q => ?_) (fun q => ?_)
  · rw [if_pos q] at h
    exact x_sub (tX7_most_17 C hr h) (xLe_n (xLe_n (xLe_n (xLe_n (xLe_n (xLe_n (xLe_n xLe_0)))))))
  · rw [if_neg q] at h
    refine x_iload_n (pc := 8) C dX7_most_8 rfl rfl ?_
    refine x_if_lt (pc := 9) (tgt := 17) C dX7_most_9 (by decide) (fun q => ?_) (fun q => ?_)
    · rw [if_pos q] at h
      exact x_sub (tX7_most_17 C hr h) (xLe_n (xLe_n (xLe_n (xLe_n (xLe_n (xLe_n (xLe_n xLe_0)))))))
    · rw [if_neg q] at h
      refine x_iload_n (pc := 12) C dX7_most_12 rfl rfl ?_
      refine x_iconst (v := 1) (pc := 13) C dX7_most_13 (by decide) ?_
      refine x_icmp_le (pc := 14) (tgt := 19) C dX7_most_14 (by decide) (fun q => ?_) (fun q => ?_)
      · rw [if_pos q] at h
        refine x_aload_n (pc := 19) C dX7_most_19 rfl rfl ?_
        refine x_iload_n (pc := 20) C dX7_most_20 rfl rfl ?_
        obtain ⟨k, h⟩ := chk_s h
        have k2 := k
        obtain ⟨u0, σ3, k, h⟩ := bnd_s h
        refine x_callV0 (pc := 21) C (mX7_keepSharesBefore E l k) cl5 k2 cX7_249 nX7_keepSharesBefore sX7_keepSharesBefore rfl rfl (Nat.le_of_ble_eq_true rfl) ⟨Nat.le_of_ble_eq_true rfl, Nat.le_of_ble_eq_true rfl, Nat.le_of_ble_eq_true rfl, Nat.le_of_ble_eq_true rfl⟩ dX7_most_21 ?_
        refine x_aload_n (pc := 24) C dX7_most_24 rfl rfl ?_
        refine x_iload_n (pc := 25) C dX7_most_25 rfl rfl ?_
        obtain ⟨k, h⟩ := chk_s h
        have k2 := k
        obtain ⟨u0, σ4, k, h⟩ := bnd_s h
        refine x_callV0 (pc := 26) C (mX7_prorateStraight E l k) cl5 k2 cX7_239 nX7_prorateStraight sX7_prorateStraight rfl rfl (Nat.le_of_ble_eq_true rfl) ⟨Nat.le_of_ble_eq_true rfl, Nat.le_of_ble_eq_true rfl, Nat.le_of_ble_eq_true rfl, Nat.le_of_ble_eq_true rfl⟩ dX7_most_26 ?_
        refine x_iconst (v := 0) (pc := 29) C dX7_most_29 (by decide) ?_
        refine x_istore_n (M := [some _, some _, some _, some _, none, none, none]) (pc := 30) C dX7_most_30 rfl (by decide) rfl ?_
        refine x_aload_n (pc := 31) C dX7_most_31 rfl rfl ?_
        obtain ⟨k, h⟩ := chk_s h
        have k2 := k
        obtain ⟨k, h⟩ := chk_s h
        refine x_getR (pc := 32) C fX7_59 rfl k2 k dX7_most_32 ?_
        refine x_iconst (v := 0) (pc := 35) C dX7_most_35 (by decide) ?_
        obtain ⟨k, h⟩ := chk_s h
        refine x_iald (pc := 36) C k dX7_most_36 ?_
        refine x_aload_n (pc := 37) C dX7_most_37 rfl rfl ?_
        obtain ⟨k, h⟩ := chk_s h
        have k2 := k
        obtain ⟨k, h⟩ := chk_s h
        refine x_getR (pc := 38) C fX7_48 rfl k2 k dX7_most_38 ?_
        obtain ⟨k, h⟩ := chk_s h
        have k2 := k
        obtain ⟨k, h⟩ := chk_s h
        refine x_getR (pc := 41) C fX7_225 rfl k2 k dX7_most_41 ?_
        refine x_iconst (v := 0) (pc := 44) C dX7_most_44 (by decide) ?_
        obtain ⟨k, h⟩ := chk_s h
        refine x_iald (pc := 45) C k dX7_most_45 ?_
        refine x_isub (pc := 46) C dX7_most_46 ?_
        refine x_istore (M := [some _, some _, some _, some _, some _, none, none]) (pc := 47) C dX7_most_47 (by decide) rfl ?_
        refine x_iconst (v := 1) (pc := 49) C dX7_most_49 (by decide) ?_
        refine x_istore (M := [some _, some _, some _, some _, some _, some _, none]) (pc := 50) C dX7_most_50 (by decide) rfl ?_
        exact x_sub (tX7_most_52 C hr FU _ _ _ _ _ _ h) (xLe_s (xLe_n (xLe_s (xLe_s (xLe_s (xLe_s (xLe_n xLe_0)))))))
      · rw [if_neg q] at h
        exact x_sub (tX7_most_17 C hr h) (xLe_n (xLe_n (xLe_n (xLe_n (xLe_n (xLe_n (xLe_n xLe_0)))))))
def DX7_may_17 (σ : Sg) : Option (Int32 × Sg) :=
  some ((-1 : Int32), σ)
theorem tX7_may_17 {r : Int32} {σ' : Sg} (C : Cx E p s m args meth c RX7 cX7_may 4) (hr : meth.sig.returnType = (some .int)) {σ : Sg} (h : DX7_may_17  σ = some (r, σ')) : Y E p l e (rmA 2 0 0) s m args below meth c (some (.int r)) σ' 0 0 4 0 0 σ 17 [none, none, none, none] [] := by
  unfold DX7_may_17 at h
  refine x_iconst (v := -1) (pc := 17) C dX7_may_17 (by decide) ?_
  cases h
  exact x_iret C hr dX7_may_18
def DX7_may_53 (σ : Sg) : Option (Int32 × Sg) :=
  some ((0 : Int32), σ)
theorem tX7_may_53 {r : Int32} {σ' : Sg} (C : Cx E p s m args meth c RX7 cX7_may 4) (hr : meth.sig.returnType = (some .int)) {σ : Sg} (h : DX7_may_53  σ = some (r, σ')) : Y E p l e (rmA 2 0 0) s m args below meth c (some (.int r)) σ' 0 0 4 0 0 σ 53 [none, none, none, none] [] := by
  unfold DX7_may_53 at h
  refine x_iconst (v := 0) (pc := 53) C dX7_may_53 (by decide) ?_
  cases h
  exact x_iret C hr dX7_may_54
def DX7_may_79 (s0 : Int32) (σ : Sg) : Option (Int32 × Sg) :=
  some (s0, σ)
theorem tX7_may_79 {r : Int32} {σ' : Sg} (C : Cx E p s m args meth c RX7 cX7_may 4) (hr : meth.sig.returnType = (some .int)) {s0 : Int32} {σ : Sg} (h : DX7_may_79 s0 σ = some (r, σ')) : Y E p l e (rmA 2 0 0) s m args below meth c (some (.int r)) σ' 0 0 4 0 0 σ 79 [none, none, none, none] [.int s0] := by
  unfold DX7_may_79 at h
  cases h
  exact x_iret C hr dX7_may_79
def DX7_may (l0 : Nat) (l1 : Int32) (l2 : Int32) (σ : Sg) : Option (Int32 × Sg) :=
  chk (ckO σ 5 l0) <|
  bnd (DX7_isTicket l0 l1 σ) fun v1 σ2 =>
  if v1 = 0 then
    DX7_may_17 σ2
  else
    if l2 < 0 then
      DX7_may_17 σ2
    else
      if l2 ≤ (1 : Int32) then
        chk (ckO σ2 5 l0) <|
        chk (ckV (gR σ2 l0 5)) <|
        chk (ckO σ2 1 (gR σ2 l0 5)) <|
        chk (ckV (gR σ2 (gR σ2 l0 5) 1)) <|
        chk (ckI σ2 (gR σ2 (gR σ2 l0 5) 1) l1) <|
        chk (ckO σ2 5 l0) <|
        chk (ckV (gR σ2 l0 5)) <|
        chk (ckO σ2 1 (gR σ2 l0 5)) <|
        chk (ckV (gR σ2 (gR σ2 l0 5) 2)) <|
        chk (ckZ σ2 (gR σ2 (gR σ2 l0 5) 2) l1) <|
        if (aI σ2 (gR σ2 (gR σ2 l0 5) 2) l1.toNatClampNeg) = 0 then
          chk (ckO σ2 5 l0) <|
          chk (ckV (gR σ2 l0 2)) <|
          chk (ckO σ2 0 (gR σ2 l0 2)) <|
          bnd (DX1_couponsOf (gR σ2 l0 2) l1 σ2) fun v3 σ4 =>
          if (aI σ2 (gR σ2 (gR σ2 l0 5) 1) l1.toNatClampNeg) < v3 then
            if l2 = 0 then
              DX7_may_79 ((1 : Int32) <<< ((aI σ2 (gR σ2 (gR σ2 l0 5) 1) l1.toNatClampNeg) &&& 31)) σ4
            else
              chk (ckO σ4 5 l0) <|
              chk (ckV (gR σ4 l0 2)) <|
              chk (ckO σ4 0 (gR σ4 l0 2)) <|
              bnd (DX1_couponsOf (gR σ4 l0 2) l1 σ4) fun v5 σ6 =>
              DX7_may_79 (((1 : Int32) <<< (v5 &&& 31)) - ((1 : Int32) <<< ((aI σ2 (gR σ2 (gR σ2 l0 5) 1) l1.toNatClampNeg) &&& 31))) σ6
          else
            DX7_may_53 σ4
        else
          DX7_may_53 σ2
      else
        DX7_may_17 σ2
theorem mX7_may (E : Ev) (l : Launch) {l0 : Nat} {l1 : Int32} {l2 : Int32} {σ : Sg} {r : Int32} {σ' : Sg} (h : DX7_may l0 l1 l2 σ = some (r, σ')) : Mt E l yX7_may cX7_may 4 (some .int) 2 0 0 [.ref (ad E l0), .int l1, .int l2] σ (some (.int r)) σ' := by
  refine Mt.ofX (by decide) (Nat.le_of_ble_eq_true rfl) (L0 := [some (.ref (ad E l0)), some (.int l1), some (.int l2), none]) (xEntN_ok [.ref (ad E l0), .int l1, .int l2] 4) (fun p e s m args below meth c C hr hn => ?_)
  unfold DX7_may at h
  refine x_aload_n (pc := 0) C dX7_may_0 rfl rfl ?_
  refine x_iload_n (pc := 1) C dX7_may_1 rfl rfl ?_
  obtain ⟨k, h⟩ := chk_s h
  have k2 := k
  obtain ⟨v1, σ2, k, h⟩ := bnd_s h
  refine x_callV1 (pc := 2) C (mX7_isTicket E l k) cl5 k2 cX7_103 nX7_isTicket sX7_isTicket rfl rfl (Nat.le_of_ble_eq_true rfl) ⟨Nat.le_of_ble_eq_true rfl, Nat.le_of_ble_eq_true rfl, Nat.le_of_ble_eq_true rfl, Nat.le_of_ble_eq_true rfl⟩ dX7_may_2 ?_
  refine x_if_eq (pc := 5) (tgt := 17) C dX7_may_5 (by decide) (fun q => ?_) (fun q => ?_)
  · rw [if_pos q] at h
    exact x_sub (tX7_may_17 C hr h) (xLe_n (xLe_n (xLe_n (xLe_n xLe_0))))
  · rw [if_neg q] at h
    refine x_iload_n (pc := 8) C dX7_may_8 rfl rfl ?_
    refine x_if_lt (pc := 9) (tgt := 17) C dX7_may_9 (by decide) (fun q => ?_) (fun q => ?_)
    · rw [if_pos q] at h
      exact x_sub (tX7_may_17 C hr h) (xLe_n (xLe_n (xLe_n (xLe_n xLe_0))))
    · rw [if_neg q] at h
      refine x_iload_n (pc := 12) C dX7_may_12 rfl rfl ?_
      refine x_iconst (v := 1) (pc := 13) C dX7_may_13 (by decide) ?_
      refine x_icmp_le (pc := 14) (tgt := 19) C dX7_may_14 (by decide) (fun q => ?_) (fun q => ?_)
      · rw [if_pos q] at h
        refine x_aload_n (pc := 19) C dX7_may_19 rfl rfl ?_
        obtain ⟨k, h⟩ := chk_s h
        have k2 := k
        obtain ⟨k, h⟩ := chk_s h
        refine x_getR (pc := 20) C fX7_39 rfl k2 k dX7_may_20 ?_
        obtain ⟨k, h⟩ := chk_s h
        have k2 := k
        obtain ⟨k, h⟩ := chk_s h
        refine x_getR (pc := 23) C fX7_175 rfl k2 k dX7_may_23 ?_
        refine x_iload_n (pc := 26) C dX7_may_26 rfl rfl ?_
        obtain ⟨k, h⟩ := chk_s h
        refine x_iald (pc := 27) C k dX7_may_27 ?_
        refine x_istore_n (M := [some _, some _, some _, some _]) (pc := 28) C dX7_may_28 rfl (by decide) rfl ?_
        refine x_aload_n (pc := 29) C dX7_may_29 rfl rfl ?_
        obtain ⟨k, h⟩ := chk_s h
        have k2 := k
        obtain ⟨k, h⟩ := chk_s h
        refine x_getR (pc := 30) C fX7_39 rfl k2 k dX7_may_30 ?_
        obtain ⟨k, h⟩ := chk_s h
        have k2 := k
        obtain ⟨k, h⟩ := chk_s h
        refine x_getR (pc := 33) C fX7_181 rfl k2 k dX7_may_33 ?_
        refine x_iload_n (pc := 36) C dX7_may_36 rfl rfl ?_
        obtain ⟨k, h⟩ := chk_s h
        refine x_zald (pc := 37) C k dX7_may_37 ?_
        refine x_if_ne (pc := 38) (tgt := 53) C dX7_may_38 (by decide) (fun q => ?_) (fun q => ?_)
        · rw [if_pos q] at h
          refine x_iload_n (pc := 41) C dX7_may_41 rfl rfl ?_
          refine x_aload_n (pc := 42) C dX7_may_42 rfl rfl ?_
          obtain ⟨k, h⟩ := chk_s h
          have k2 := k
          obtain ⟨k, h⟩ := chk_s h
          refine x_getR (pc := 43) C fX7_20 rfl k2 k dX7_may_43 ?_
          refine x_iload_n (pc := 46) C dX7_may_46 rfl rfl ?_
          obtain ⟨k, h⟩ := chk_s h
          have k2 := k
          obtain ⟨v3, σ4, k, h⟩ := bnd_s h
          refine x_callV1 (pc := 47) C (mX1_couponsOf E l k) cl0 k2 cX7_107 nX1_couponsOf sX1_couponsOf rfl rfl (Nat.le_of_ble_eq_true rfl) ⟨Nat.le_of_ble_eq_true rfl, Nat.le_of_ble_eq_true rfl, Nat.le_of_ble_eq_true rfl, Nat.le_of_ble_eq_true rfl⟩ dX7_may_47 ?_
          refine x_icmp_lt (pc := 50) (tgt := 55) C dX7_may_50 (by decide) (fun q => ?_) (fun q => ?_)
          · rw [if_pos q] at h
            refine x_iload_n (pc := 55) C dX7_may_55 rfl rfl ?_
            refine x_if_ne (pc := 56) (tgt := 65) C dX7_may_56 (by decide) (fun q => ?_) (fun q => ?_)
            · rw [if_pos q] at h
              refine x_iconst (v := 1) (pc := 59) C dX7_may_59 (by decide) ?_
              refine x_iload_n (pc := 60) C dX7_may_60 rfl rfl ?_
              refine x_ishl (pc := 61) C dX7_may_61 ?_
              refine x_goto (tgt := 79) (pc := 62) C dX7_may_62 (by decide) ?_
              exact x_sub (tX7_may_79 C hr h) (xLe_n (xLe_n (xLe_n (xLe_n xLe_0))))
            · rw [if_neg q] at h
              refine x_iconst (v := 1) (pc := 65) C dX7_may_65 (by decide) ?_
              refine x_aload_n (pc := 66) C dX7_may_66 rfl rfl ?_
              obtain ⟨k, h⟩ := chk_s h
              have k2 := k
              obtain ⟨k, h⟩ := chk_s h
              refine x_getR (pc := 67) C fX7_20 rfl k2 k dX7_may_67 ?_
              refine x_iload_n (pc := 70) C dX7_may_70 rfl rfl ?_
              obtain ⟨k, h⟩ := chk_s h
              have k2 := k
              obtain ⟨v5, σ6, k, h⟩ := bnd_s h
              refine x_callV1 (pc := 71) C (mX1_couponsOf E l k) cl0 k2 cX7_107 nX1_couponsOf sX1_couponsOf rfl rfl (Nat.le_of_ble_eq_true rfl) ⟨Nat.le_of_ble_eq_true rfl, Nat.le_of_ble_eq_true rfl, Nat.le_of_ble_eq_true rfl, Nat.le_of_ble_eq_true rfl⟩ dX7_may_71 ?_
              refine x_ishl (pc := 74) C dX7_may_74 ?_
              refine x_iconst (v := 1) (pc := 75) C dX7_may_75 (by decide) ?_
              refine x_iload_n (pc := 76) C dX7_may_76 rfl rfl ?_
              refine x_ishl (pc := 77) C dX7_may_77 ?_
              refine x_isub (pc := 78) C dX7_may_78 ?_
              exact x_sub (tX7_may_79 C hr h) (xLe_n (xLe_n (xLe_n (xLe_n xLe_0))))
          · rw [if_neg q] at h
            exact x_sub (tX7_may_53 C hr h) (xLe_n (xLe_n (xLe_n (xLe_n xLe_0))))
        · rw [if_neg q] at h
          exact x_sub (tX7_may_53 C hr h) (xLe_n (xLe_n (xLe_n (xLe_n xLe_0))))
      · rw [if_neg q] at h
        exact x_sub (tX7_may_17 C hr h) (xLe_n (xLe_n (xLe_n (xLe_n xLe_0))))
def DX7_faresTogether_32 (l1 : Int32) (σ : Sg) : Option (Int32 × Sg) :=
  some (l1, σ)
theorem tX7_faresTogether_32 {r : Int32} {σ' : Sg} (C : Cx E p s m args meth c RX7 cX7_faresTogether 3) (hr : meth.sig.returnType = (some .int)) {l1 : Int32} {σ : Sg} (h : DX7_faresTogether_32 l1 σ = some (r, σ')) : Y E p l e (rmA 2 0 0) s m args below meth c (some (.int r)) σ' 0 0 3 0 0 σ 32 [none, some (.int l1), none] [] := by
  unfold DX7_faresTogether_32 at h
  refine x_iload_n (pc := 32) C dX7_faresTogether_32 rfl rfl ?_
  cases h
  exact x_iret C hr dX7_faresTogether_33
def DX7_faresTogether_4 : Nat → Nat → Int32 → Int32 → Sg → Option (Int32 × Sg)
  | 0, _, _, _, _ => none
  | n + 1, l0, l1, l2, σ =>
    chk (ckO σ 5 l0) <|
    chk (ckV (gR σ l0 2)) <|
    chk (ckO σ 0 (gR σ l0 2)) <|
    if (gI σ (gR σ l0 2) 9) ≤ l2 then
      DX7_faresTogether_32 l1 σ
    else
      chk (ckO σ 5 l0) <|
      chk (ckV (gR σ l0 2)) <|
      chk (ckO σ 0 (gR σ l0 2)) <|
      bnd (DX1_fareOf (gR σ l0 2) l2 σ) fun v1 σ2 =>
      DX7_faresTogether_4 n l0 (l1 + v1) (l2 + (1 : Int32)) σ2
theorem tX7_faresTogether_4 {r : Int32} {σ' : Sg} (C : Cx E p s m args meth c RX7 cX7_faresTogether 3) (hr : meth.sig.returnType = (some .int)) : ∀ (n : Nat) (l0 : Nat) (l1 : Int32) (l2 : Int32) (σ : Sg) (h : DX7_faresTogether_4 n l0 l1 l2 σ = some (r, σ')), Y E p l e (rmA 2 0 0) s m args below meth c (some (.int r)) σ' 0 0 3 0 0 σ 4 [some (.ref (ad E l0)), some (.int l1), some (.int l2)] [] := by
  intro n
  induction n with
  | zero => intro l0 l1 l2 σ h; cases h
  | succ n ih =>
    intro l0 l1 l2 σ h
    unfold DX7_faresTogether_4 at h
    refine x_iload_n (pc := 4) C dX7_faresTogether_4 rfl rfl ?_
    refine x_aload_n (pc := 5) C dX7_faresTogether_5 rfl rfl ?_
    obtain ⟨k, h⟩ := chk_s h
    have k2 := k
    obtain ⟨k, h⟩ := chk_s h
    refine x_getR (pc := 6) C fX7_20 rfl k2 k dX7_faresTogether_6 ?_
    obtain ⟨k, h⟩ := chk_s h
    refine x_getI (pc := 9) C fX7_100 rfl k dX7_faresTogether_9 ?_
    refine x_icmp_ge (pc := 12) (tgt := 32) C dX7_faresTogether_12 (by decide) (fun q => ?_) (fun q => ?_)
    · rw [if_pos q] at h
      exact x_sub (tX7_faresTogether_32 C hr h) (xLe_n (xLe_s (xLe_n xLe_0)))
    · rw [if_neg q] at h
      refine x_iload_n (pc := 15) C dX7_faresTogether_15 rfl rfl ?_
      refine x_aload_n (pc := 16) C dX7_faresTogether_16 rfl rfl ?_
      obtain ⟨k, h⟩ := chk_s h
      have k2 := k
      obtain ⟨k, h⟩ := chk_s h
      refine x_getR (pc := 17) C fX7_20 rfl k2 k dX7_faresTogether_17 ?_
      refine x_iload_n (pc := 20) C dX7_faresTogether_20 rfl rfl ?_
      obtain ⟨k, h⟩ := chk_s h
      have k2 := k
      obtain ⟨v1, σ2, k, h⟩ := bnd_s h
      refine x_callV1 (pc := 21) C (mX1_fareOf E l k) cl0 k2 cX7_169 nX1_fareOf sX1_fareOf rfl rfl (Nat.le_of_ble_eq_true rfl) ⟨Nat.le_of_ble_eq_true rfl, Nat.le_of_ble_eq_true rfl, Nat.le_of_ble_eq_true rfl, Nat.le_of_ble_eq_true rfl⟩ dX7_faresTogether_21 ?_
      refine x_iadd (pc := 24) C dX7_faresTogether_24 ?_
      refine x_istore_n (M := [some _, some _, some _]) (pc := 25) C dX7_faresTogether_25 rfl (by decide) rfl ?_
      refine x_iinc (v := 1) (M := [some _, some _, some _]) (pc := 26) C dX7_faresTogether_26 rfl (by decide) (by decide) rfl ?_
      refine x_goto (tgt := 4) (pc := 29) C dX7_faresTogether_29 (by decide) ?_
      exact x_sub (ih _ _ _ _ h) (xLe_s (xLe_s (xLe_s xLe_0)))
def DX7_faresTogether (l0 : Nat) (σ : Sg) : Option (Int32 × Sg) :=
  DX7_faresTogether_4 FU l0 (0 : Int32) (0 : Int32) σ
theorem mX7_faresTogether (E : Ev) (l : Launch) {l0 : Nat} {σ : Sg} {r : Int32} {σ' : Sg} (h : DX7_faresTogether l0 σ = some (r, σ')) : Mt E l yX7_faresTogether cX7_faresTogether 3 (some .int) 2 0 0 [.ref (ad E l0)] σ (some (.int r)) σ' := by
  refine Mt.ofX (by decide) (Nat.le_of_ble_eq_true rfl) (L0 := [some (.ref (ad E l0)), none, none]) (xEntN_ok [.ref (ad E l0)] 3) (fun p e s m args below meth c C hr hn => ?_)
  unfold DX7_faresTogether at h
  refine x_iconst (v := 0) (pc := 0) C dX7_faresTogether_0 (by decide) ?_
  refine x_istore_n (M := [some _, some _, none]) (pc := 1) C dX7_faresTogether_1 rfl (by decide) rfl ?_
  refine x_iconst (v := 0) (pc := 2) C dX7_faresTogether_2 (by decide) ?_
  refine x_istore_n (M := [some _, some _, some _]) (pc := 3) C dX7_faresTogether_3 rfl (by decide) rfl ?_
  exact x_sub (tX7_faresTogether_4 C hr FU _ _ _ _ h) (xLe_s (xLe_s (xLe_s xLe_0)))
def DX7_allFlownTogether_29 (l1 : Int32) (σ : Sg) : Option (Int32 × Sg) :=
  some (l1, σ)
theorem tX7_allFlownTogether_29 {r : Int32} {σ' : Sg} (C : Cx E p s m args meth c RX7 cX7_allFlownTogether 3) (hr : meth.sig.returnType = (some .int)) {l1 : Int32} {σ : Sg} (h : DX7_allFlownTogether_29 l1 σ = some (r, σ')) : Y E p l e (rmA 2 0 0) s m args below meth c (some (.int r)) σ' 0 0 3 0 0 σ 29 [none, some (.int l1), none] [] := by
  unfold DX7_allFlownTogether_29 at h
  refine x_iload_n (pc := 29) C dX7_allFlownTogether_29 rfl rfl ?_
  cases h
  exact x_iret C hr dX7_allFlownTogether_30
def DX7_allFlownTogether_4 : Nat → Nat → Int32 → Int32 → Sg → Option (Int32 × Sg)
  | 0, _, _, _, _ => none
  | n + 1, l0, l1, l2, σ =>
    chk (ckO σ 5 l0) <|
    chk (ckV (gR σ l0 2)) <|
    chk (ckO σ 0 (gR σ l0 2)) <|
    if (gI σ (gR σ l0 2) 9) ≤ l2 then
      DX7_allFlownTogether_29 l1 σ
    else
      chk (ckO σ 5 l0) <|
      bnd (DX7_flownTogether l0 l2 σ) fun v1 σ2 =>
      DX7_allFlownTogether_4 n l0 (l1 + v1) (l2 + (1 : Int32)) σ2
theorem tX7_allFlownTogether_4 {r : Int32} {σ' : Sg} (C : Cx E p s m args meth c RX7 cX7_allFlownTogether 3) (hr : meth.sig.returnType = (some .int)) : ∀ (n : Nat) (l0 : Nat) (l1 : Int32) (l2 : Int32) (σ : Sg) (h : DX7_allFlownTogether_4 n l0 l1 l2 σ = some (r, σ')), Y E p l e (rmA 2 0 0) s m args below meth c (some (.int r)) σ' 0 0 3 0 0 σ 4 [some (.ref (ad E l0)), some (.int l1), some (.int l2)] [] := by
  intro n
  induction n with
  | zero => intro l0 l1 l2 σ h; cases h
  | succ n ih =>
    intro l0 l1 l2 σ h
    unfold DX7_allFlownTogether_4 at h
    refine x_iload_n (pc := 4) C dX7_allFlownTogether_4 rfl rfl ?_
    refine x_aload_n (pc := 5) C dX7_allFlownTogether_5 rfl rfl ?_
    obtain ⟨k, h⟩ := chk_s h
    have k2 := k
    obtain ⟨k, h⟩ := chk_s h
    refine x_getR (pc := 6) C fX7_20 rfl k2 k dX7_allFlownTogether_6 ?_
    obtain ⟨k, h⟩ := chk_s h
    refine x_getI (pc := 9) C fX7_100 rfl k dX7_allFlownTogether_9 ?_
    refine x_icmp_ge (pc := 12) (tgt := 29) C dX7_allFlownTogether_12 (by decide) (fun q => ?_) (fun q => ?_)
    · rw [if_pos q] at h
      exact x_sub (tX7_allFlownTogether_29 C hr h) (xLe_n (xLe_s (xLe_n xLe_0)))
    · rw [if_neg q] at h
      refine x_iload_n (pc := 15) C dX7_allFlownTogether_15 rfl rfl ?_
      refine x_aload_n (pc := 16) C dX7_allFlownTogether_16 rfl rfl ?_
      refine x_iload_n (pc := 17) C dX7_allFlownTogether_17 rfl rfl ?_
      obtain ⟨k, h⟩ := chk_s h
      have k2 := k
      obtain ⟨v1, σ2, k, h⟩ := bnd_s h
      refine x_callV1 (pc := 18) C (mX7_flownTogether E l k) cl5 k2 cX7_188 nX7_flownTogether sX7_flownTogether rfl rfl (Nat.le_of_ble_eq_true rfl) ⟨Nat.le_of_ble_eq_true rfl, Nat.le_of_ble_eq_true rfl, Nat.le_of_ble_eq_true rfl, Nat.le_of_ble_eq_true rfl⟩ dX7_allFlownTogether_18 ?_
      refine x_iadd (pc := 21) C dX7_allFlownTogether_21 ?_
      refine x_istore_n (M := [some _, some _, some _]) (pc := 22) C dX7_allFlownTogether_22 rfl (by decide) rfl ?_
      refine x_iinc (v := 1) (M := [some _, some _, some _]) (pc := 23) C dX7_allFlownTogether_23 rfl (by decide) (by decide) rfl ?_
      refine x_goto (tgt := 4) (pc := 26) C dX7_allFlownTogether_26 (by decide) ?_
      exact x_sub (ih _ _ _ _ h) (xLe_s (xLe_s (xLe_s xLe_0)))
def DX7_allFlownTogether (l0 : Nat) (σ : Sg) : Option (Int32 × Sg) :=
  DX7_allFlownTogether_4 FU l0 (0 : Int32) (0 : Int32) σ
theorem mX7_allFlownTogether (E : Ev) (l : Launch) {l0 : Nat} {σ : Sg} {r : Int32} {σ' : Sg} (h : DX7_allFlownTogether l0 σ = some (r, σ')) : Mt E l yX7_allFlownTogether cX7_allFlownTogether 3 (some .int) 2 0 0 [.ref (ad E l0)] σ (some (.int r)) σ' := by
  refine Mt.ofX (by decide) (Nat.le_of_ble_eq_true rfl) (L0 := [some (.ref (ad E l0)), none, none]) (xEntN_ok [.ref (ad E l0)] 3) (fun p e s m args below meth c C hr hn => ?_)
  unfold DX7_allFlownTogether at h
  refine x_iconst (v := 0) (pc := 0) C dX7_allFlownTogether_0 (by decide) ?_
  refine x_istore_n (M := [some _, some _, none]) (pc := 1) C dX7_allFlownTogether_1 rfl (by decide) rfl ?_
  refine x_iconst (v := 0) (pc := 2) C dX7_allFlownTogether_2 (by decide) ?_
  refine x_istore_n (M := [some _, some _, some _]) (pc := 3) C dX7_allFlownTogether_3 rfl (by decide) rfl ?_
  exact x_sub (tX7_allFlownTogether_4 C hr FU _ _ _ _ h) (xLe_s (xLe_s (xLe_s xLe_0)))
def DX7_openTogether_45 (K4 : Nat → Int32 → Int32 → Int32 → Sg → Option (Int32 × Sg)) (l0 : Nat) (l1 : Int32) (l2 : Int32) (l3 : Int32) (σ : Sg) : Option (Int32 × Sg) :=
  K4 l0 l1 l2 (l3 + (1 : Int32)) σ
theorem tX7_openTogether_45 {r : Int32} {σ' : Sg} (C : Cx E p s m args meth c RX7 cX7_openTogether 4) (hr : meth.sig.returnType = (some .int)) {K4 : Nat → Int32 → Int32 → Int32 → Sg → Option (Int32 × Sg)} (hK4 : ∀ (l0 : Nat) (l1 : Int32) (l2 : Int32) (l3 : Int32) (σ : Sg), K4 l0 l1 l2 l3 σ = some (r, σ') → Y E p l e (rmA 2 0 0) s m args below meth c (some (.int r)) σ' 0 0 4 0 0 σ 4 [some (.ref (ad E l0)), some (.int l1), some (.int l2), some (.int l3)] []) {l0 : Nat} {l1 : Int32} {l2 : Int32} {l3 : Int32} {σ : Sg} (h : DX7_openTogether_45 K4 l0 l1 l2 l3 σ = some (r, σ')) : Y E p l e (rmA 2 0 0) s m args below meth c (some (.int r)) σ' 0 0 4 0 0 σ 45 [some (.ref (ad E l0)), some (.int l1), some (.int l2), some (.int l3)] [] := by
  unfold DX7_openTogether_45 at h
  refine x_iinc (v := 1) (M := [some _, some _, some _, some _]) (pc := 45) C dX7_openTogether_45 rfl (by decide) (by decide) rfl ?_
  refine x_goto (tgt := 4) (pc := 48) C dX7_openTogether_48 (by decide) ?_
  exact x_sub (hK4 _ _ _ _ _ h) (xLe_s (xLe_s (xLe_s (xLe_s xLe_0))))
def DX7_openTogether_51 (l2 : Int32) (σ : Sg) : Option (Int32 × Sg) :=
  some (l2, σ)
theorem tX7_openTogether_51 {r : Int32} {σ' : Sg} (C : Cx E p s m args meth c RX7 cX7_openTogether 4) (hr : meth.sig.returnType = (some .int)) {l2 : Int32} {σ : Sg} (h : DX7_openTogether_51 l2 σ = some (r, σ')) : Y E p l e (rmA 2 0 0) s m args below meth c (some (.int r)) σ' 0 0 4 0 0 σ 51 [none, none, some (.int l2), none] [] := by
  unfold DX7_openTogether_51 at h
  refine x_iload_n (pc := 51) C dX7_openTogether_51 rfl rfl ?_
  cases h
  exact x_iret C hr dX7_openTogether_52
def DX7_openTogether_4 : Nat → Nat → Int32 → Int32 → Int32 → Sg → Option (Int32 × Sg)
  | 0, _, _, _, _, _ => none
  | n + 1, l0, l1, l2, l3, σ =>
    chk (ckO σ 5 l0) <|
    chk (ckV (gR σ l0 2)) <|
    chk (ckO σ 0 (gR σ l0 2)) <|
    if (gI σ (gR σ l0 2) 9) ≤ l3 then
      DX7_openTogether_51 l2 σ
    else
      chk (ckO σ 5 l0) <|
      chk (ckV (gR σ l0 5)) <|
      chk (ckO σ 1 (gR σ l0 5)) <|
      chk (ckV (gR σ (gR σ l0 5) 2)) <|
      chk (ckZ σ (gR σ (gR σ l0 5) 2) l3) <|
      if (aI σ (gR σ (gR σ l0 5) 2) l3.toNatClampNeg) = l1 then
        chk (ckO σ 5 l0) <|
        chk (ckV (gR σ l0 2)) <|
        chk (ckO σ 0 (gR σ l0 2)) <|
        bnd (DX1_fareOf (gR σ l0 2) l3 σ) fun v1 σ2 =>
        chk (ckO σ2 5 l0) <|
        bnd (DX7_flownTogether l0 l3 σ2) fun v3 σ4 =>
        DX7_openTogether_45 (DX7_openTogether_4 n) l0 l1 (l2 + (v1 - v3)) l3 σ4
      else
        DX7_openTogether_45 (DX7_openTogether_4 n) l0 l1 l2 l3 σ
theorem tX7_openTogether_4 {r : Int32} {σ' : Sg} (C : Cx E p s m args meth c RX7 cX7_openTogether 4) (hr : meth.sig.returnType = (some .int)) : ∀ (n : Nat) (l0 : Nat) (l1 : Int32) (l2 : Int32) (l3 : Int32) (σ : Sg) (h : DX7_openTogether_4 n l0 l1 l2 l3 σ = some (r, σ')), Y E p l e (rmA 2 0 0) s m args below meth c (some (.int r)) σ' 0 0 4 0 0 σ 4 [some (.ref (ad E l0)), some (.int l1), some (.int l2), some (.int l3)] [] := by
  intro n
  induction n with
  | zero => intro l0 l1 l2 l3 σ h; cases h
  | succ n ih =>
    intro l0 l1 l2 l3 σ h
    unfold DX7_openTogether_4 at h
    refine x_iload_n (pc := 4) C dX7_openTogether_4 rfl rfl ?_
    refine x_aload_n (pc := 5) C dX7_openTogether_5 rfl rfl ?_
    obtain ⟨k, h⟩ := chk_s h
    have k2 := k
    obtain ⟨k, h⟩ := chk_s h
    refine x_getR (pc := 6) C fX7_20 rfl k2 k dX7_openTogether_6 ?_
    obtain ⟨k, h⟩ := chk_s h
    refine x_getI (pc := 9) C fX7_100 rfl k dX7_openTogether_9 ?_
    refine x_icmp_ge (pc := 12) (tgt := 51) C dX7_openTogether_12 (by decide) (fun q => ?_) (fun q => ?_)
    · rw [if_pos q] at h
      exact x_sub (tX7_openTogether_51 C hr h) (xLe_n (xLe_n (xLe_s (xLe_n xLe_0))))
    · rw [if_neg q] at h
      refine x_aload_n (pc := 15) C dX7_openTogether_15 rfl rfl ?_
      obtain ⟨k, h⟩ := chk_s h
      have k2 := k
      obtain ⟨k, h⟩ := chk_s h
      refine x_getR (pc := 16) C fX7_39 rfl k2 k dX7_openTogether_16 ?_
      obtain ⟨k, h⟩ := chk_s h
      have k2 := k
      obtain ⟨k, h⟩ := chk_s h
      refine x_getR (pc := 19) C fX7_181 rfl k2 k dX7_openTogether_19 ?_
      refine x_iload_n (pc := 22) C dX7_openTogether_22 rfl rfl ?_
      obtain ⟨k, h⟩ := chk_s h
      refine x_zald (pc := 23) C k dX7_openTogether_23 ?_
      refine x_iload_n (pc := 24) C dX7_openTogether_24 rfl rfl ?_
      refine x_icmp_ne (pc := 25) (tgt := 45) C dX7_openTogether_25 (by decide) (fun q => ?_) (fun q => ?_)
      · rw [if_pos q] at h
        refine x_iload_n (pc := 28) C dX7_openTogether_28 rfl rfl ?_
        refine x_aload_n (pc := 29) C dX7_openTogether_29 rfl rfl ?_
        obtain ⟨k, h⟩ := chk_s h
        have k2 := k
        obtain ⟨k, h⟩ := chk_s h
        refine x_getR (pc := 30) C fX7_20 rfl k2 k dX7_openTogether_30 ?_
        refine x_iload_n (pc := 33) C dX7_openTogether_33 rfl rfl ?_
        obtain ⟨k, h⟩ := chk_s h
        have k2 := k
        obtain ⟨v1, σ2, k, h⟩ := bnd_s h
        refine x_callV1 (pc := 34) C (mX1_fareOf E l k) cl0 k2 cX7_169 nX1_fareOf sX1_fareOf rfl rfl (Nat.le_of_ble_eq_true rfl) ⟨Nat.le_of_ble_eq_true rfl, Nat.le_of_ble_eq_true rfl, Nat.le_of_ble_eq_true rfl, Nat.le_of_ble_eq_true rfl⟩ dX7_openTogether_34 ?_
        refine x_aload_n (pc := 37) C dX7_openTogether_37 rfl rfl ?_
        refine x_iload_n (pc := 38) C dX7_openTogether_38 rfl rfl ?_
        obtain ⟨k, h⟩ := chk_s h
        have k2 := k
        obtain ⟨v3, σ4, k, h⟩ := bnd_s h
        refine x_callV1 (pc := 39) C (mX7_flownTogether E l k) cl5 k2 cX7_188 nX7_flownTogether sX7_flownTogether rfl rfl (Nat.le_of_ble_eq_true rfl) ⟨Nat.le_of_ble_eq_true rfl, Nat.le_of_ble_eq_true rfl, Nat.le_of_ble_eq_true rfl, Nat.le_of_ble_eq_true rfl⟩ dX7_openTogether_39 ?_
        refine x_isub (pc := 42) C dX7_openTogether_42 ?_
        refine x_iadd (pc := 43) C dX7_openTogether_43 ?_
        refine x_istore_n (M := [some _, some _, some _, some _]) (pc := 44) C dX7_openTogether_44 rfl (by decide) rfl ?_
        exact x_sub (tX7_openTogether_45 C hr ih h) (xLe_s (xLe_s (xLe_s (xLe_s xLe_0))))
      · rw [if_neg q] at h
        exact x_sub (tX7_openTogether_45 C hr ih h) (xLe_s (xLe_s (xLe_s (xLe_s xLe_0))))
def DX7_openTogether (l0 : Nat) (l1 : Int32) (σ : Sg) : Option (Int32 × Sg) :=
  DX7_openTogether_4 FU l0 l1 (0 : Int32) (0 : Int32) σ
theorem mX7_openTogether (E : Ev) (l : Launch) {l0 : Nat} {l1 : Int32} {σ : Sg} {r : Int32} {σ' : Sg} (h : DX7_openTogether l0 l1 σ = some (r, σ')) : Mt E l yX7_openTogether cX7_openTogether 4 (some .int) 2 0 0 [.ref (ad E l0), .int l1] σ (some (.int r)) σ' := by
  refine Mt.ofX (by decide) (Nat.le_of_ble_eq_true rfl) (L0 := [some (.ref (ad E l0)), some (.int l1), none, none]) (xEntN_ok [.ref (ad E l0), .int l1] 4) (fun p e s m args below meth c C hr hn => ?_)
  unfold DX7_openTogether at h
  refine x_iconst (v := 0) (pc := 0) C dX7_openTogether_0 (by decide) ?_
  refine x_istore_n (M := [some _, some _, some _, none]) (pc := 1) C dX7_openTogether_1 rfl (by decide) rfl ?_
  refine x_iconst (v := 0) (pc := 2) C dX7_openTogether_2 (by decide) ?_
  refine x_istore_n (M := [some _, some _, some _, some _]) (pc := 3) C dX7_openTogether_3 rfl (by decide) rfl ?_
  exact x_sub (tX7_openTogether_4 C hr FU _ _ _ _ _ h) (xLe_s (xLe_s (xLe_s (xLe_s xLe_0))))
def DX7_money (l0 : Nat) (l1 : Int32) (σ : Sg) : Option (Int32 × Sg) :=
  if l1 = 0 then
    chk (ckO σ 5 l0) <|
    bnd (DX7_faresTogether l0 σ) fun v1 σ2 =>
    some (v1, σ2)
  else
    if l1 = 1 then
      chk (ckO σ 5 l0) <|
      bnd (DX7_allFlownTogether l0 σ) fun v3 σ4 =>
      some (v3, σ4)
    else
      if l1 = 2 then
        chk (ckO σ 5 l0) <|
        bnd (DX7_openTogether l0 (0 : Int32) σ) fun v5 σ6 =>
        some (v5, σ6)
      else
        if l1 = 3 then
          chk (ckO σ 5 l0) <|
          bnd (DX7_openTogether l0 (1 : Int32) σ) fun v7 σ8 =>
          some (v7, σ8)
        else
          if l1 = 4 then
            chk (ckO σ 5 l0) <|
            chk (ckV (gR σ l0 5)) <|
            chk (ckO σ 1 (gR σ l0 5)) <|
            bnd (DX2_billsTogether (gR σ l0 5) σ) fun v9 σ10 =>
            some (v9, σ10)
          else
            some ((-1 : Int32), σ)
theorem mX7_money (E : Ev) (l : Launch) {l0 : Nat} {l1 : Int32} {σ : Sg} {r : Int32} {σ' : Sg} (h : DX7_money l0 l1 σ = some (r, σ')) : Mt E l yX7_money cX7_money 2 (some .int) 3 0 0 [.ref (ad E l0), .int l1] σ (some (.int r)) σ' := by
  refine Mt.ofX (by decide) (Nat.le_of_ble_eq_true rfl) (L0 := [some (.ref (ad E l0)), some (.int l1)]) (xEntN_ok [.ref (ad E l0), .int l1] 2) (fun p e s m args below meth c C hr hn => ?_)
  unfold DX7_money at h
  refine x_iload_n (pc := 0) C dX7_money_0 rfl rfl ?_
  refine br_em (c := l1 = 0) (fun q0 => ?_) (fun q0 => ?_)
  · rw [if_pos q0] at h
    refine x_switchIn (pc := 1) (tgt := 36) C dX7_money_1 (by rw [q0]; decide) (by rw [q0]; decide) (o := 35) (by rw [q0]; rfl) (by decide) ?_
    refine x_aload_n (pc := 36) C dX7_money_36 rfl rfl ?_
    obtain ⟨k, h⟩ := chk_s h
    have k2 := k
    obtain ⟨v1, σ2, k, h⟩ := bnd_s h
    refine x_callV1 (pc := 37) C (mX7_faresTogether E l k) cl5 k2 cX7_342 nX7_faresTogether sX7_faresTogether rfl rfl (Nat.le_of_ble_eq_true rfl) ⟨Nat.le_of_ble_eq_true rfl, Nat.le_of_ble_eq_true rfl, Nat.le_of_ble_eq_true rfl, Nat.le_of_ble_eq_true rfl⟩ dX7_money_37 ?_
    cases h
    exact x_iret C hr dX7_money_40
  · rw [if_neg q0] at h
    refine br_em (c := l1 = 1) (fun q1 => ?_) (fun q1 => ?_)
    · rw [if_pos q1] at h
      refine x_switchIn (pc := 1) (tgt := 41) C dX7_money_1 (by rw [q1]; decide) (by rw [q1]; decide) (o := 40) (by rw [q1]; rfl) (by decide) ?_
      refine x_aload_n (pc := 41) C dX7_money_41 rfl rfl ?_
      obtain ⟨k, h⟩ := chk_s h
      have k2 := k
      obtain ⟨v3, σ4, k, h⟩ := bnd_s h
      refine x_callV1 (pc := 42) C (mX7_allFlownTogether E l k) cl5 k2 cX7_345 nX7_allFlownTogether sX7_allFlownTogether rfl rfl (Nat.le_of_ble_eq_true rfl) ⟨Nat.le_of_ble_eq_true rfl, Nat.le_of_ble_eq_true rfl, Nat.le_of_ble_eq_true rfl, Nat.le_of_ble_eq_true rfl⟩ dX7_money_42 ?_
      cases h
      exact x_iret C hr dX7_money_45
    · rw [if_neg q1] at h
      refine br_em (c := l1 = 2) (fun q2 => ?_) (fun q2 => ?_)
      · rw [if_pos q2] at h
        refine x_switchIn (pc := 1) (tgt := 46) C dX7_money_1 (by rw [q2]; decide) (by rw [q2]; decide) (o := 45) (by rw [q2]; rfl) (by decide) ?_
        refine x_aload_n (pc := 46) C dX7_money_46 rfl rfl ?_
        refine x_iconst (v := 0) (pc := 47) C dX7_money_47 (by decide) ?_
        obtain ⟨k, h⟩ := chk_s h
        have k2 := k
        obtain ⟨v5, σ6, k, h⟩ := bnd_s h
        refine x_callV1 (pc := 48) C (mX7_openTogether E l k) cl5 k2 cX7_348 nX7_openTogether sX7_openTogether rfl rfl (Nat.le_of_ble_eq_true rfl) ⟨Nat.le_of_ble_eq_true rfl, Nat.le_of_ble_eq_true rfl, Nat.le_of_ble_eq_true rfl, Nat.le_of_ble_eq_true rfl⟩ dX7_money_48 ?_
        cases h
        exact x_iret C hr dX7_money_51
      · rw [if_neg q2] at h
        refine br_em (c := l1 = 3) (fun q3 => ?_) (fun q3 => ?_)
        · rw [if_pos q3] at h
          refine x_switchIn (pc := 1) (tgt := 52) C dX7_money_1 (by rw [q3]; decide) (by rw [q3]; decide) (o := 51) (by rw [q3]; rfl) (by decide) ?_
          refine x_aload_n (pc := 52) C dX7_money_52 rfl rfl ?_
          refine x_iconst (v := 1) (pc := 53) C dX7_money_53 (by decide) ?_
          obtain ⟨k, h⟩ := chk_s h
          have k2 := k
          obtain ⟨v7, σ8, k, h⟩ := bnd_s h
          refine x_callV1 (pc := 54) C (mX7_openTogether E l k) cl5 k2 cX7_348 nX7_openTogether sX7_openTogether rfl rfl (Nat.le_of_ble_eq_true rfl) ⟨Nat.le_of_ble_eq_true rfl, Nat.le_of_ble_eq_true rfl, Nat.le_of_ble_eq_true rfl, Nat.le_of_ble_eq_true rfl⟩ dX7_money_54 ?_
          cases h
          exact x_iret C hr dX7_money_57
        · rw [if_neg q3] at h
          refine br_em (c := l1 = 4) (fun q4 => ?_) (fun q4 => ?_)
          · rw [if_pos q4] at h
            refine x_switchIn (pc := 1) (tgt := 58) C dX7_money_1 (by rw [q4]; decide) (by rw [q4]; decide) (o := 57) (by rw [q4]; rfl) (by decide) ?_
            refine x_aload_n (pc := 58) C dX7_money_58 rfl rfl ?_
            obtain ⟨k, h⟩ := chk_s h
            have k2 := k
            obtain ⟨k, h⟩ := chk_s h
            refine x_getR (pc := 59) C fX7_39 rfl k2 k dX7_money_59 ?_
            obtain ⟨k, h⟩ := chk_s h
            have k2 := k
            obtain ⟨v9, σ10, k, h⟩ := bnd_s h
            refine x_callV1 (pc := 62) C (mX2_billsTogether E l k) cl1 k2 cX7_274 nX2_billsTogether sX2_billsTogether rfl rfl (Nat.le_of_ble_eq_true rfl) ⟨Nat.le_of_ble_eq_true rfl, Nat.le_of_ble_eq_true rfl, Nat.le_of_ble_eq_true rfl, Nat.le_of_ble_eq_true rfl⟩ dX7_money_62 ?_
            cases h
            exact x_iret C hr dX7_money_65
          · rw [if_neg q4] at h
            have eq0 := sw_ne (k := 0) q0 (by decide)
            have eq1 := sw_ne (k := 1) q1 (by decide)
            have eq2 := sw_ne (k := 2) q2 (by decide)
            have eq3 := sw_ne (k := 3) q3 (by decide)
            have eq4 := sw_ne (k := 4) q4 (by decide)
            refine x_switchOut (pc := 1) (tgt := 66) C dX7_money_1 (by omega) (by decide) ?_
            refine x_iconst (v := -1) (pc := 66) C dX7_money_66 (by decide) ?_
            cases h
            exact x_iret C hr dX7_money_67
def DX7_count (l0 : Nat) (l1 : Int32) (σ : Sg) : Option (Int32 × Sg) :=
  if l1 = 0 then
    chk (ckO σ 5 l0) <|
    chk (ckV (gR σ l0 2)) <|
    chk (ckO σ 0 (gR σ l0 2)) <|
    some ((gI σ (gR σ l0 2) 0), σ)
  else
    if l1 = 1 then
      chk (ckO σ 5 l0) <|
      chk (ckV (gR σ l0 2)) <|
      chk (ckO σ 0 (gR σ l0 2)) <|
      some ((gI σ (gR σ l0 2) 1), σ)
    else
      if l1 = 2 then
        chk (ckO σ 5 l0) <|
        chk (ckV (gR σ l0 2)) <|
        chk (ckO σ 0 (gR σ l0 2)) <|
        some ((gI σ (gR σ l0 2) 2), σ)
      else
        if l1 = 3 then
          chk (ckO σ 5 l0) <|
          chk (ckV (gR σ l0 2)) <|
          chk (ckO σ 0 (gR σ l0 2)) <|
          some ((gI σ (gR σ l0 2) 3), σ)
        else
          if l1 = 4 then
            chk (ckO σ 5 l0) <|
            chk (ckV (gR σ l0 2)) <|
            chk (ckO σ 0 (gR σ l0 2)) <|
            some ((gI σ (gR σ l0 2) 4), σ)
          else
            if l1 = 5 then
              chk (ckO σ 5 l0) <|
              chk (ckV (gR σ l0 2)) <|
              chk (ckO σ 0 (gR σ l0 2)) <|
              some ((gI σ (gR σ l0 2) 5), σ)
            else
              if l1 = 6 then
                chk (ckO σ 5 l0) <|
                chk (ckV (gR σ l0 2)) <|
                chk (ckO σ 0 (gR σ l0 2)) <|
                some ((gI σ (gR σ l0 2) 6), σ)
              else
                if l1 = 7 then
                  chk (ckO σ 5 l0) <|
                  chk (ckV (gR σ l0 2)) <|
                  chk (ckO σ 0 (gR σ l0 2)) <|
                  some ((gI σ (gR σ l0 2) 7), σ)
                else
                  if l1 = 8 then
                    chk (ckO σ 5 l0) <|
                    chk (ckV (gR σ l0 2)) <|
                    chk (ckO σ 0 (gR σ l0 2)) <|
                    some ((gI σ (gR σ l0 2) 9), σ)
                  else
                    if l1 = 9 then
                      chk (ckO σ 5 l0) <|
                      chk (ckV (gR σ l0 5)) <|
                      chk (ckO σ 1 (gR σ l0 5)) <|
                      some ((gI σ (gR σ l0 5) 10), σ)
                    else
                      if l1 = 10 then
                        chk (ckO σ 5 l0) <|
                        some ((gI σ l0 1), σ)
                      else
                        some ((-1 : Int32), σ)
theorem mX7_count (E : Ev) (l : Launch) {l0 : Nat} {l1 : Int32} {σ : Sg} {r : Int32} {σ' : Sg} (h : DX7_count l0 l1 σ = some (r, σ')) : Mt E l yX7_count cX7_count 2 (some .int) 1 0 0 [.ref (ad E l0), .int l1] σ (some (.int r)) σ' := by
  refine Mt.ofX (by decide) (Nat.le_of_ble_eq_true rfl) (L0 := [some (.ref (ad E l0)), some (.int l1)]) (xEntN_ok [.ref (ad E l0), .int l1] 2) (fun p e s m args below meth c C hr hn => ?_)
  unfold DX7_count at h
  refine x_iload_n (pc := 0) C dX7_count_0 rfl rfl ?_
  refine br_em (c := l1 = 0) (fun q0 => ?_) (fun q0 => ?_)
  · rw [if_pos q0] at h
    refine x_switchIn (pc := 1) (tgt := 60) C dX7_count_1 (by rw [q0]; decide) (by rw [q0]; decide) (o := 59) (by rw [q0]; rfl) (by decide) ?_
    refine x_aload_n (pc := 60) C dX7_count_60 rfl rfl ?_
    obtain ⟨k, h⟩ := chk_s h
    have k2 := k
    obtain ⟨k, h⟩ := chk_s h
    refine x_getR (pc := 61) C fX7_20 rfl k2 k dX7_count_61 ?_
    obtain ⟨k, h⟩ := chk_s h
    refine x_getI (pc := 64) C fX7_82 rfl k dX7_count_64 ?_
    cases h
    exact x_iret C hr dX7_count_67
  · rw [if_neg q0] at h
    refine br_em (c := l1 = 1) (fun q1 => ?_) (fun q1 => ?_)
    · rw [if_pos q1] at h
      refine x_switchIn (pc := 1) (tgt := 68) C dX7_count_1 (by rw [q1]; decide) (by rw [q1]; decide) (o := 67) (by rw [q1]; rfl) (by decide) ?_
      refine x_aload_n (pc := 68) C dX7_count_68 rfl rfl ?_
      obtain ⟨k, h⟩ := chk_s h
      have k2 := k
      obtain ⟨k, h⟩ := chk_s h
      refine x_getR (pc := 69) C fX7_20 rfl k2 k dX7_count_69 ?_
      obtain ⟨k, h⟩ := chk_s h
      refine x_getI (pc := 72) C fX7_91 rfl k dX7_count_72 ?_
      cases h
      exact x_iret C hr dX7_count_75
    · rw [if_neg q1] at h
      refine br_em (c := l1 = 2) (fun q2 => ?_) (fun q2 => ?_)
      · rw [if_pos q2] at h
        refine x_switchIn (pc := 1) (tgt := 76) C dX7_count_1 (by rw [q2]; decide) (by rw [q2]; decide) (o := 75) (by rw [q2]; rfl) (by decide) ?_
        refine x_aload_n (pc := 76) C dX7_count_76 rfl rfl ?_
        obtain ⟨k, h⟩ := chk_s h
        have k2 := k
        obtain ⟨k, h⟩ := chk_s h
        refine x_getR (pc := 77) C fX7_20 rfl k2 k dX7_count_77 ?_
        obtain ⟨k, h⟩ := chk_s h
        refine x_getI (pc := 80) C fX7_94 rfl k dX7_count_80 ?_
        cases h
        exact x_iret C hr dX7_count_83
      · rw [if_neg q2] at h
        refine br_em (c := l1 = 3) (fun q3 => ?_) (fun q3 => ?_)
        · rw [if_pos q3] at h
          refine x_switchIn (pc := 1) (tgt := 84) C dX7_count_1 (by rw [q3]; decide) (by rw [q3]; decide) (o := 83) (by rw [q3]; rfl) (by decide) ?_
          refine x_aload_n (pc := 84) C dX7_count_84 rfl rfl ?_
          obtain ⟨k, h⟩ := chk_s h
          have k2 := k
          obtain ⟨k, h⟩ := chk_s h
          refine x_getR (pc := 85) C fX7_20 rfl k2 k dX7_count_85 ?_
          obtain ⟨k, h⟩ := chk_s h
          refine x_getI (pc := 88) C fX7_352 rfl k dX7_count_88 ?_
          cases h
          exact x_iret C hr dX7_count_91
        · rw [if_neg q3] at h
          refine br_em (c := l1 = 4) (fun q4 => ?_) (fun q4 => ?_)
          · rw [if_pos q4] at h
            refine x_switchIn (pc := 1) (tgt := 92) C dX7_count_1 (by rw [q4]; decide) (by rw [q4]; decide) (o := 91) (by rw [q4]; rfl) (by decide) ?_
            refine x_aload_n (pc := 92) C dX7_count_92 rfl rfl ?_
            obtain ⟨k, h⟩ := chk_s h
            have k2 := k
            obtain ⟨k, h⟩ := chk_s h
            refine x_getR (pc := 93) C fX7_20 rfl k2 k dX7_count_93 ?_
            obtain ⟨k, h⟩ := chk_s h
            refine x_getI (pc := 96) C fX7_355 rfl k dX7_count_96 ?_
            cases h
            exact x_iret C hr dX7_count_99
          · rw [if_neg q4] at h
            refine br_em (c := l1 = 5) (fun q5 => ?_) (fun q5 => ?_)
            · rw [if_pos q5] at h
              refine x_switchIn (pc := 1) (tgt := 100) C dX7_count_1 (by rw [q5]; decide) (by rw [q5]; decide) (o := 99) (by rw [q5]; rfl) (by decide) ?_
              refine x_aload_n (pc := 100) C dX7_count_100 rfl rfl ?_
              obtain ⟨k, h⟩ := chk_s h
              have k2 := k
              obtain ⟨k, h⟩ := chk_s h
              refine x_getR (pc := 101) C fX7_20 rfl k2 k dX7_count_101 ?_
              obtain ⟨k, h⟩ := chk_s h
              refine x_getI (pc := 104) C fX7_97 rfl k dX7_count_104 ?_
              cases h
              exact x_iret C hr dX7_count_107
            · rw [if_neg q5] at h
              refine br_em (c := l1 = 6) (fun q6 => ?_) (fun q6 => ?_)
              · rw [if_pos q6] at h
                refine x_switchIn (pc := 1) (tgt := 108) C dX7_count_1 (by rw [q6]; decide) (by rw [q6]; decide) (o := 107) (by rw [q6]; rfl) (by decide) ?_
                refine x_aload_n (pc := 108) C dX7_count_108 rfl rfl ?_
                obtain ⟨k, h⟩ := chk_s h
                have k2 := k
                obtain ⟨k, h⟩ := chk_s h
                refine x_getR (pc := 109) C fX7_20 rfl k2 k dX7_count_109 ?_
                obtain ⟨k, h⟩ := chk_s h
                refine x_getI (pc := 112) C fX7_358 rfl k dX7_count_112 ?_
                cases h
                exact x_iret C hr dX7_count_115
              · rw [if_neg q6] at h
                refine br_em (c := l1 = 7) (fun q7 => ?_) (fun q7 => ?_)
                · rw [if_pos q7] at h
                  refine x_switchIn (pc := 1) (tgt := 116) C dX7_count_1 (by rw [q7]; decide) (by rw [q7]; decide) (o := 115) (by rw [q7]; rfl) (by decide) ?_
                  refine x_aload_n (pc := 116) C dX7_count_116 rfl rfl ?_
                  obtain ⟨k, h⟩ := chk_s h
                  have k2 := k
                  obtain ⟨k, h⟩ := chk_s h
                  refine x_getR (pc := 117) C fX7_20 rfl k2 k dX7_count_117 ?_
                  obtain ⟨k, h⟩ := chk_s h
                  refine x_getI (pc := 120) C fX7_361 rfl k dX7_count_120 ?_
                  cases h
                  exact x_iret C hr dX7_count_123
                · rw [if_neg q7] at h
                  refine br_em (c := l1 = 8) (fun q8 => ?_) (fun q8 => ?_)
                  · rw [if_pos q8] at h
                    refine x_switchIn (pc := 1) (tgt := 124) C dX7_count_1 (by rw [q8]; decide) (by rw [q8]; decide) (o := 123) (by rw [q8]; rfl) (by decide) ?_
                    refine x_aload_n (pc := 124) C dX7_count_124 rfl rfl ?_
                    obtain ⟨k, h⟩ := chk_s h
                    have k2 := k
                    obtain ⟨k, h⟩ := chk_s h
                    refine x_getR (pc := 125) C fX7_20 rfl k2 k dX7_count_125 ?_
                    obtain ⟨k, h⟩ := chk_s h
                    refine x_getI (pc := 128) C fX7_100 rfl k dX7_count_128 ?_
                    cases h
                    exact x_iret C hr dX7_count_131
                  · rw [if_neg q8] at h
                    refine br_em (c := l1 = 9) (fun q9 => ?_) (fun q9 => ?_)
                    · rw [if_pos q9] at h
                      refine x_switchIn (pc := 1) (tgt := 132) C dX7_count_1 (by rw [q9]; decide) (by rw [q9]; decide) (o := 131) (by rw [q9]; rfl) (by decide) ?_
                      refine x_aload_n (pc := 132) C dX7_count_132 rfl rfl ?_
                      obtain ⟨k, h⟩ := chk_s h
                      have k2 := k
                      obtain ⟨k, h⟩ := chk_s h
                      refine x_getR (pc := 133) C fX7_39 rfl k2 k dX7_count_133 ?_
                      obtain ⟨k, h⟩ := chk_s h
                      refine x_getI (pc := 136) C fX7_291 rfl k dX7_count_136 ?_
                      cases h
                      exact x_iret C hr dX7_count_139
                    · rw [if_neg q9] at h
                      refine br_em (c := l1 = 10) (fun q10 => ?_) (fun q10 => ?_)
                      · rw [if_pos q10] at h
                        refine x_switchIn (pc := 1) (tgt := 140) C dX7_count_1 (by rw [q10]; decide) (by rw [q10]; decide) (o := 139) (by rw [q10]; rfl) (by decide) ?_
                        refine x_aload_n (pc := 140) C dX7_count_140 rfl rfl ?_
                        obtain ⟨k, h⟩ := chk_s h
                        refine x_getI (pc := 141) C fX7_13 rfl k dX7_count_141 ?_
                        cases h
                        exact x_iret C hr dX7_count_144
                      · rw [if_neg q10] at h
                        have eq0 := sw_ne (k := 0) q0 (by decide)
                        have eq1 := sw_ne (k := 1) q1 (by decide)
                        have eq2 := sw_ne (k := 2) q2 (by decide)
                        have eq3 := sw_ne (k := 3) q3 (by decide)
                        have eq4 := sw_ne (k := 4) q4 (by decide)
                        have eq5 := sw_ne (k := 5) q5 (by decide)
                        have eq6 := sw_ne (k := 6) q6 (by decide)
                        have eq7 := sw_ne (k := 7) q7 (by decide)
                        have eq8 := sw_ne (k := 8) q8 (by decide)
                        have eq9 := sw_ne (k := 9) q9 (by decide)
                        have eq10 := sw_ne (k := 10) q10 (by decide)
                        refine x_switchOut (pc := 1) (tgt := 145) C dX7_count_1 (by omega) (by decide) ?_
                        refine x_iconst (v := -1) (pc := 145) C dX7_count_145 (by decide) ?_
                        cases h
                        exact x_iret C hr dX7_count_146
end

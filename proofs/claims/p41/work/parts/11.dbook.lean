section
variable {E : Ev} {p : Program} {l : Launch} {e : Env} {s : State} {m : MethodId} {args : Array Value} {below : List Frame} {meth : Method} {c : Code}
def DX1_init (l0 : Nat) (σ : Sg) : Option (Unit × Sg) :=
  chk (ckO σ 0 l0) <|
  wlet (pI σ l0 0 (0 : Int32)) fun σ1 =>
  chk (ckO σ1 0 l0) <|
  wlet (pI σ1 l0 1 (0 : Int32)) fun σ2 =>
  chk (ckO σ2 0 l0) <|
  wlet (pI σ2 l0 2 (0 : Int32)) fun σ3 =>
  chk (ckO σ3 0 l0) <|
  wlet (pI σ3 l0 3 (0 : Int32)) fun σ4 =>
  chk (ckO σ4 0 l0) <|
  wlet (pI σ4 l0 4 (0 : Int32)) fun σ5 =>
  chk (ckO σ5 0 l0) <|
  wlet (pI σ5 l0 5 (0 : Int32)) fun σ6 =>
  chk (ckO σ6 0 l0) <|
  wlet (pI σ6 l0 6 (0 : Int32)) fun σ7 =>
  chk (ckO σ7 0 l0) <|
  wlet (pI σ7 l0 7 (10 : Int32)) fun σ8 =>
  chk (ckO σ8 0 l0) <|
  chk (ck01 (0 : Int32)) <|
  wlet (pI σ8 l0 8 (0 : Int32)) fun σ9 =>
  chk (ckO σ9 0 l0) <|
  wlet (pI σ9 l0 9 (0 : Int32)) fun σ10 =>
  chk (ckW σ10 4 12 0) <|
  bnd (some (gN σ10, mk1 σ10)) fun a12 σ11 =>
  chk (ckO σ11 0 l0) <|
  chk (ckV a12) <|
  wlet (pR σ11 l0 10 a12) fun σ13 =>
  chk (ckW σ13 4 6 0) <|
  bnd (some (gN σ13, mk1 σ13)) fun a15 σ14 =>
  chk (ckO σ14 0 l0) <|
  chk (ckV a15) <|
  wlet (pR σ14 l0 11 a15) fun σ16 =>
  chk (ckW σ16 4 8 0) <|
  bnd (some (gN σ16, mk1 σ16)) fun a18 σ17 =>
  chk (ckO σ17 0 l0) <|
  chk (ckV a18) <|
  wlet (pR σ17 l0 12 a18) fun σ19 =>
  chk (ckW σ19 5 12 12) <|
  bnd (some (gN σ19, mk1 σ19)) fun a21 σ20 =>
  chk (ckO σ20 0 l0) <|
  chk (ckV a21) <|
  wlet (pR σ20 l0 13 a21) fun σ22 =>
  chk (ckW σ22 5 12 12) <|
  bnd (some (gN σ22, mk1 σ22)) fun a24 σ23 =>
  chk (ckO σ23 0 l0) <|
  chk (ckV a24) <|
  wlet (pR σ23 l0 14 a24) fun σ25 =>
  chk (ckW σ25 5 5 2) <|
  bnd (some (gN σ25, mk1 σ25)) fun a27 σ26 =>
  chk (ckO σ26 0 l0) <|
  chk (ckV a27) <|
  wlet (pR σ26 l0 15 a27) fun σ28 =>
  chk (ckW σ28 5 16 6) <|
  bnd (some (gN σ28, mk1 σ28)) fun a30 σ29 =>
  chk (ckO σ29 0 l0) <|
  chk (ckV a30) <|
  wlet (pR σ29 l0 16 a30) fun σ31 =>
  chk (ckW σ31 5 16 4) <|
  bnd (some (gN σ31, mk1 σ31)) fun a33 σ32 =>
  chk (ckO σ32 0 l0) <|
  chk (ckV a33) <|
  wlet (pR σ32 l0 17 a33) fun σ34 =>
  chk (ckW σ34 5 8 11) <|
  bnd (some (gN σ34, mk1 σ34)) fun a36 σ35 =>
  chk (ckO σ35 0 l0) <|
  chk (ckV a36) <|
  wlet (pR σ35 l0 18 a36) fun σ37 =>
  chk (ckW σ37 5 8 9) <|
  bnd (some (gN σ37, mk1 σ37)) fun a39 σ38 =>
  chk (ckO σ38 0 l0) <|
  chk (ckV a39) <|
  wlet (pR σ38 l0 19 a39) fun σ40 =>
  some ((), σ40)
theorem mX1_init (E : Ev) (l : Launch) {l0 : Nat} {σ : Sg} {r : Unit} {σ' : Sg} (h : DX1_init l0 σ = some (r, σ')) : Mt E l yX1_init cX1_init 1 none 1 87 721 [.ref (ad E l0)] σ none σ' := by
  refine Mt.ofX (by decide) (Nat.le_of_ble_eq_true rfl) (L0 := [some (.ref (ad E l0))]) (xEntN_ok [.ref (ad E l0)] 1) (fun p e s m args below meth c C hr hn => ?_)
  unfold DX1_init at h
  refine x_aload_n (pc := 0) C dX1_init_0 rfl rfl ?_
  refine x_objInit (pc := 1) C oX1_3 oi1 oi2 ⟨Nat.le_of_ble_eq_true rfl, Nat.le_of_ble_eq_true rfl⟩ dX1_init_1 ?_
  refine x_aload_n (pc := 4) C dX1_init_4 rfl rfl ?_
  refine x_iconst (v := 0) (pc := 5) C dX1_init_5 (by decide) ?_
  obtain ⟨k, h⟩ := chk_s h
  obtain ⟨σ1, e1, h⟩ := wlet_s h
  refine x_putI (pc := 6) C pX1_9 rfl k dX1_init_6 (x_eq e1 ?_)
  refine x_aload_n (pc := 9) C dX1_init_9 rfl rfl ?_
  refine x_iconst (v := 0) (pc := 10) C dX1_init_10 (by decide) ?_
  obtain ⟨k, h⟩ := chk_s h
  obtain ⟨σ2, e1, h⟩ := wlet_s h
  refine x_putI (pc := 11) C pX1_15 rfl k dX1_init_11 (x_eq e1 ?_)
  refine x_aload_n (pc := 14) C dX1_init_14 rfl rfl ?_
  refine x_iconst (v := 0) (pc := 15) C dX1_init_15 (by decide) ?_
  obtain ⟨k, h⟩ := chk_s h
  obtain ⟨σ3, e1, h⟩ := wlet_s h
  refine x_putI (pc := 16) C pX1_18 rfl k dX1_init_16 (x_eq e1 ?_)
  refine x_aload_n (pc := 19) C dX1_init_19 rfl rfl ?_
  refine x_iconst (v := 0) (pc := 20) C dX1_init_20 (by decide) ?_
  obtain ⟨k, h⟩ := chk_s h
  obtain ⟨σ4, e1, h⟩ := wlet_s h
  refine x_putI (pc := 21) C pX1_21 rfl k dX1_init_21 (x_eq e1 ?_)
  refine x_aload_n (pc := 24) C dX1_init_24 rfl rfl ?_
  refine x_iconst (v := 0) (pc := 25) C dX1_init_25 (by decide) ?_
  obtain ⟨k, h⟩ := chk_s h
  obtain ⟨σ5, e1, h⟩ := wlet_s h
  refine x_putI (pc := 26) C pX1_24 rfl k dX1_init_26 (x_eq e1 ?_)
  refine x_aload_n (pc := 29) C dX1_init_29 rfl rfl ?_
  refine x_iconst (v := 0) (pc := 30) C dX1_init_30 (by decide) ?_
  obtain ⟨k, h⟩ := chk_s h
  obtain ⟨σ6, e1, h⟩ := wlet_s h
  refine x_putI (pc := 31) C pX1_27 rfl k dX1_init_31 (x_eq e1 ?_)
  refine x_aload_n (pc := 34) C dX1_init_34 rfl rfl ?_
  refine x_iconst (v := 0) (pc := 35) C dX1_init_35 (by decide) ?_
  obtain ⟨k, h⟩ := chk_s h
  obtain ⟨σ7, e1, h⟩ := wlet_s h
  refine x_putI (pc := 36) C pX1_30 rfl k dX1_init_36 (x_eq e1 ?_)
  refine x_aload_n (pc := 39) C dX1_init_39 rfl rfl ?_
  refine x_bipush (v := 10) (pc := 40) C dX1_init_40 (by decide) ?_
  obtain ⟨k, h⟩ := chk_s h
  obtain ⟨σ8, e1, h⟩ := wlet_s h
  refine x_putI (pc := 42) C pX1_33 rfl k dX1_init_42 (x_eq e1 ?_)
  refine x_aload_n (pc := 45) C dX1_init_45 rfl rfl ?_
  refine x_iconst (v := 0) (pc := 46) C dX1_init_46 (by decide) ?_
  obtain ⟨k, h⟩ := chk_s h
  have k2 := k
  obtain ⟨k, h⟩ := chk_s h
  obtain ⟨σ9, e1, h⟩ := wlet_s h
  refine x_putZ (pc := 47) C pX1_36 rfl k2 k dX1_init_47 (x_eq e1 ?_)
  refine x_aload_n (pc := 50) C dX1_init_50 rfl rfl ?_
  refine x_iconst (v := 0) (pc := 51) C dX1_init_51 (by decide) ?_
  obtain ⟨k, h⟩ := chk_s h
  obtain ⟨σ10, e1, h⟩ := wlet_s h
  refine x_putI (pc := 52) C pX1_40 rfl k dX1_init_52 (x_eq e1 ?_)
  refine x_aload_n (pc := 55) C dX1_init_55 rfl rfl ?_
  refine x_bipush (v := 12) (pc := 56) C dX1_init_56 (by decide) ?_
  obtain ⟨k, h⟩ := chk_s h
  have k2 := k
  obtain ⟨a12, σ11, e1, h⟩ := bnd_s h
  refine x_newJ (N := 12) (pc := 58) C aaJ (by decide) (by decide) k2 (by decide) ⟨Nat.le_of_ble_eq_true rfl, Nat.le_of_ble_eq_true rfl⟩ dX1_init_58 (x_mkE e1 ?_)
  obtain ⟨k, h⟩ := chk_s h
  have k2 := k
  obtain ⟨k, h⟩ := chk_s h
  obtain ⟨σ13, e1, h⟩ := wlet_s h
  refine x_putQ (pc := 60) C qX1_43 hn (Or.inr ⟨_, rfl⟩) k2 k dX1_init_60 (x_eq e1 ?_)
  refine x_aload_n (pc := 63) C dX1_init_63 rfl rfl ?_
  refine x_bipush (v := 6) (pc := 64) C dX1_init_64 (by decide) ?_
  obtain ⟨k, h⟩ := chk_s h
  have k2 := k
  obtain ⟨a15, σ14, e1, h⟩ := bnd_s h
  refine x_newJ (N := 6) (pc := 66) C aaJ (by decide) (by decide) k2 (by decide) ⟨Nat.le_of_ble_eq_true rfl, Nat.le_of_ble_eq_true rfl⟩ dX1_init_66 (x_mkE e1 ?_)
  obtain ⟨k, h⟩ := chk_s h
  have k2 := k
  obtain ⟨k, h⟩ := chk_s h
  obtain ⟨σ16, e1, h⟩ := wlet_s h
  refine x_putQ (pc := 68) C qX1_47 hn (Or.inr ⟨_, rfl⟩) k2 k dX1_init_68 (x_eq e1 ?_)
  refine x_aload_n (pc := 71) C dX1_init_71 rfl rfl ?_
  refine x_bipush (v := 8) (pc := 72) C dX1_init_72 (by decide) ?_
  obtain ⟨k, h⟩ := chk_s h
  have k2 := k
  obtain ⟨a18, σ17, e1, h⟩ := bnd_s h
  refine x_newJ (N := 8) (pc := 74) C aaJ (by decide) (by decide) k2 (by decide) ⟨Nat.le_of_ble_eq_true rfl, Nat.le_of_ble_eq_true rfl⟩ dX1_init_74 (x_mkE e1 ?_)
  obtain ⟨k, h⟩ := chk_s h
  have k2 := k
  obtain ⟨k, h⟩ := chk_s h
  obtain ⟨σ19, e1, h⟩ := wlet_s h
  refine x_putQ (pc := 76) C qX1_50 hn (Or.inr ⟨_, rfl⟩) k2 k dX1_init_76 (x_eq e1 ?_)
  refine x_aload_n (pc := 79) C dX1_init_79 rfl rfl ?_
  refine x_bipush (v := 12) (pc := 80) C dX1_init_80 (by decide) ?_
  refine x_bipush (v := 12) (pc := 82) C dX1_init_82 (by decide) ?_
  obtain ⟨k, h⟩ := chk_s h
  have k2 := k
  obtain ⟨a21, σ20, e1, h⟩ := bnd_s h
  refine x_newG (N := 12) (K := 12) (pc := 84) C wX1_53 aaI (by decide) (by decide) (by decide) (by decide) k2 (by decide) ⟨Nat.le_of_ble_eq_true rfl, Nat.le_of_ble_eq_true rfl⟩ dX1_init_84 (x_mkE e1 ?_)
  obtain ⟨k, h⟩ := chk_s h
  have k2 := k
  obtain ⟨k, h⟩ := chk_s h
  obtain ⟨σ22, e1, h⟩ := wlet_s h
  refine x_putQ (pc := 88) C qX1_55 hn (Or.inr ⟨_, rfl⟩) k2 k dX1_init_88 (x_eq e1 ?_)
  refine x_aload_n (pc := 91) C dX1_init_91 rfl rfl ?_
  refine x_bipush (v := 12) (pc := 92) C dX1_init_92 (by decide) ?_
  refine x_bipush (v := 12) (pc := 94) C dX1_init_94 (by decide) ?_
  obtain ⟨k, h⟩ := chk_s h
  have k2 := k
  obtain ⟨a24, σ23, e1, h⟩ := bnd_s h
  refine x_newG (N := 12) (K := 12) (pc := 96) C wX1_53 aaI (by decide) (by decide) (by decide) (by decide) k2 (by decide) ⟨Nat.le_of_ble_eq_true rfl, Nat.le_of_ble_eq_true rfl⟩ dX1_init_96 (x_mkE e1 ?_)
  obtain ⟨k, h⟩ := chk_s h
  have k2 := k
  obtain ⟨k, h⟩ := chk_s h
  obtain ⟨σ25, e1, h⟩ := wlet_s h
  refine x_putQ (pc := 100) C qX1_58 hn (Or.inr ⟨_, rfl⟩) k2 k dX1_init_100 (x_eq e1 ?_)
  refine x_aload_n (pc := 103) C dX1_init_103 rfl rfl ?_
  refine x_iconst (v := 5) (pc := 104) C dX1_init_104 (by decide) ?_
  refine x_iconst (v := 2) (pc := 105) C dX1_init_105 (by decide) ?_
  obtain ⟨k, h⟩ := chk_s h
  have k2 := k
  obtain ⟨a27, σ26, e1, h⟩ := bnd_s h
  refine x_newG (N := 5) (K := 2) (pc := 106) C wX1_53 aaI (by decide) (by decide) (by decide) (by decide) k2 (by decide) ⟨Nat.le_of_ble_eq_true rfl, Nat.le_of_ble_eq_true rfl⟩ dX1_init_106 (x_mkE e1 ?_)
  obtain ⟨k, h⟩ := chk_s h
  have k2 := k
  obtain ⟨k, h⟩ := chk_s h
  obtain ⟨σ28, e1, h⟩ := wlet_s h
  refine x_putQ (pc := 110) C qX1_61 hn (Or.inr ⟨_, rfl⟩) k2 k dX1_init_110 (x_eq e1 ?_)
  refine x_aload_n (pc := 113) C dX1_init_113 rfl rfl ?_
  refine x_bipush (v := 16) (pc := 114) C dX1_init_114 (by decide) ?_
  refine x_bipush (v := 6) (pc := 116) C dX1_init_116 (by decide) ?_
  obtain ⟨k, h⟩ := chk_s h
  have k2 := k
  obtain ⟨a30, σ29, e1, h⟩ := bnd_s h
  refine x_newG (N := 16) (K := 6) (pc := 118) C wX1_53 aaI (by decide) (by decide) (by decide) (by decide) k2 (by decide) ⟨Nat.le_of_ble_eq_true rfl, Nat.le_of_ble_eq_true rfl⟩ dX1_init_118 (x_mkE e1 ?_)
  obtain ⟨k, h⟩ := chk_s h
  have k2 := k
  obtain ⟨k, h⟩ := chk_s h
  obtain ⟨σ31, e1, h⟩ := wlet_s h
  refine x_putQ (pc := 122) C qX1_64 hn (Or.inr ⟨_, rfl⟩) k2 k dX1_init_122 (x_eq e1 ?_)
  refine x_aload_n (pc := 125) C dX1_init_125 rfl rfl ?_
  refine x_bipush (v := 16) (pc := 126) C dX1_init_126 (by decide) ?_
  refine x_iconst (v := 4) (pc := 128) C dX1_init_128 (by decide) ?_
  obtain ⟨k, h⟩ := chk_s h
  have k2 := k
  obtain ⟨a33, σ32, e1, h⟩ := bnd_s h
  refine x_newG (N := 16) (K := 4) (pc := 129) C wX1_53 aaI (by decide) (by decide) (by decide) (by decide) k2 (by decide) ⟨Nat.le_of_ble_eq_true rfl, Nat.le_of_ble_eq_true rfl⟩ dX1_init_129 (x_mkE e1 ?_)
  obtain ⟨k, h⟩ := chk_s h
  have k2 := k
  obtain ⟨k, h⟩ := chk_s h
  obtain ⟨σ34, e1, h⟩ := wlet_s h
  refine x_putQ (pc := 133) C qX1_67 hn (Or.inr ⟨_, rfl⟩) k2 k dX1_init_133 (x_eq e1 ?_)
  refine x_aload_n (pc := 136) C dX1_init_136 rfl rfl ?_
  refine x_bipush (v := 8) (pc := 137) C dX1_init_137 (by decide) ?_
  refine x_bipush (v := 11) (pc := 139) C dX1_init_139 (by decide) ?_
  obtain ⟨k, h⟩ := chk_s h
  have k2 := k
  obtain ⟨a36, σ35, e1, h⟩ := bnd_s h
  refine x_newG (N := 8) (K := 11) (pc := 141) C wX1_53 aaI (by decide) (by decide) (by decide) (by decide) k2 (by decide) ⟨Nat.le_of_ble_eq_true rfl, Nat.le_of_ble_eq_true rfl⟩ dX1_init_141 (x_mkE e1 ?_)
  obtain ⟨k, h⟩ := chk_s h
  have k2 := k
  obtain ⟨k, h⟩ := chk_s h
  obtain ⟨σ37, e1, h⟩ := wlet_s h
  refine x_putQ (pc := 145) C qX1_70 hn (Or.inr ⟨_, rfl⟩) k2 k dX1_init_145 (x_eq e1 ?_)
  refine x_aload_n (pc := 148) C dX1_init_148 rfl rfl ?_
  refine x_bipush (v := 8) (pc := 149) C dX1_init_149 (by decide) ?_
  refine x_bipush (v := 9) (pc := 151) C dX1_init_151 (by decide) ?_
  obtain ⟨k, h⟩ := chk_s h
  have k2 := k
  obtain ⟨a39, σ38, e1, h⟩ := bnd_s h
  refine x_newG (N := 8) (K := 9) (pc := 153) C wX1_53 aaI (by decide) (by decide) (by decide) (by decide) k2 (by decide) ⟨Nat.le_of_ble_eq_true rfl, Nat.le_of_ble_eq_true rfl⟩ dX1_init_153 (x_mkE e1 ?_)
  obtain ⟨k, h⟩ := chk_s h
  have k2 := k
  obtain ⟨k, h⟩ := chk_s h
  obtain ⟨σ40, e1, h⟩ := wlet_s h
  refine x_putQ (pc := 157) C qX1_73 hn (Or.inr ⟨_, rfl⟩) k2 k dX1_init_157 (x_eq e1 ?_)
  cases h
  exact x_vret C hr dX1_init_160
def DX1_empty_94 (K53 : Nat → Int32 → Sg → Option (Unit × Sg)) (K61 : Nat → Int32 → Int32 → Sg → Option (Unit × Sg)) (l0 : Nat) (l1 : Int32) (l2 : Int32) (g0 : Nat) (i0 : Nat) (s1 : Int32) (s2 : Int32) (σ : Sg) : Option (Unit × Sg) :=
  chk (ckR σ g0 i0 s1) <|
  wlet (wG σ g0 i0 s1.toNatClampNeg s2) fun σ1 =>
  K61 l0 l1 (l2 + (1 : Int32)) σ1
theorem tX1_empty_94 {r : Unit} {σ' : Sg} (C : Cx E p s m args meth c RX1 cX1_empty 3) (hr : meth.sig.returnType = none) {K53 : Nat → Int32 → Sg → Option (Unit × Sg)} (hK53 : ∀ (l0 : Nat) (l1 : Int32) (σ : Sg), K53 l0 l1 σ = some (r, σ') → Y E p l e (rmA 1 0 0) s m args below meth c none σ' 0 0 3 0 0 σ 53 [some (.ref (ad E l0)), some (.int l1), none] []) {K61 : Nat → Int32 → Int32 → Sg → Option (Unit × Sg)} (hK61 : ∀ (l0 : Nat) (l1 : Int32) (l2 : Int32) (σ : Sg), K61 l0 l1 l2 σ = some (r, σ') → Y E p l e (rmA 1 0 0) s m args below meth c none σ' 0 0 3 0 0 σ 61 [some (.ref (ad E l0)), some (.int l1), some (.int l2)] []) {l0 : Nat} {l1 : Int32} {l2 : Int32} {g0 : Nat} {i0 : Nat} {s1 : Int32} {s2 : Int32} {σ : Sg} (h : DX1_empty_94 K53 K61 l0 l1 l2 g0 i0 s1 s2 σ = some (r, σ')) : Y E p l e (rmA 1 0 0) s m args below meth c none σ' 0 0 3 0 0 σ 94 [some (.ref (ad E l0)), some (.int l1), some (.int l2)] [.int s2, .int s1, .ref (rw1 E g0 i0)] := by
  unfold DX1_empty_94 at h
  obtain ⟨k, h⟩ := chk_s h
  obtain ⟨σ1, e1, h⟩ := wlet_s h
  refine x_rast (pc := 94) C k dX1_empty_94 (x_eq e1 ?_)
  refine x_iinc (v := 1) (M := [some _, some _, some _]) (pc := 95) C dX1_empty_95 rfl (by decide) (by decide) rfl ?_
  refine x_goto (tgt := 61) (pc := 98) C dX1_empty_98 (by decide) ?_
  exact x_sub (hK61 _ _ _ _ h) (xLe_s (xLe_s (xLe_s xLe_0)))
def DX1_empty_101 (K53 : Nat → Int32 → Sg → Option (Unit × Sg)) (l0 : Nat) (l1 : Int32) (σ : Sg) : Option (Unit × Sg) :=
  K53 l0 (l1 + (1 : Int32)) σ
theorem tX1_empty_101 {r : Unit} {σ' : Sg} (C : Cx E p s m args meth c RX1 cX1_empty 3) (hr : meth.sig.returnType = none) {K53 : Nat → Int32 → Sg → Option (Unit × Sg)} (hK53 : ∀ (l0 : Nat) (l1 : Int32) (σ : Sg), K53 l0 l1 σ = some (r, σ') → Y E p l e (rmA 1 0 0) s m args below meth c none σ' 0 0 3 0 0 σ 53 [some (.ref (ad E l0)), some (.int l1), none] []) {l0 : Nat} {l1 : Int32} {σ : Sg} (h : DX1_empty_101 K53 l0 l1 σ = some (r, σ')) : Y E p l e (rmA 1 0 0) s m args below meth c none σ' 0 0 3 0 0 σ 101 [some (.ref (ad E l0)), some (.int l1), none] [] := by
  unfold DX1_empty_101 at h
  refine x_iinc (v := 1) (M := [some _, some _, none]) (pc := 101) C dX1_empty_101 rfl (by decide) (by decide) rfl ?_
  refine x_goto (tgt := 53) (pc := 104) C dX1_empty_104 (by decide) ?_
  exact x_sub (hK53 _ _ _ h) (xLe_s (xLe_s (xLe_n xLe_0)))
def DX1_empty_61 (K53 : Nat → Int32 → Sg → Option (Unit × Sg)) : Nat → Nat → Int32 → Int32 → Sg → Option (Unit × Sg)
  | 0, _, _, _, _ => none
  | n + 1, l0, l1, l2, σ =>
    if (12 : Int32) ≤ l2 then
      DX1_empty_101 K53 l0 l1 σ
    else
      chk (ckO σ 0 l0) <|
      chk (ckV (gR σ l0 13)) <|
      chk (ckG σ (gR σ l0 13) l1) <|
      chk (ckR σ (gR σ l0 13) l1.toNatClampNeg l2) <|
      wlet (wG σ (gR σ l0 13) l1.toNatClampNeg l2.toNatClampNeg (0 : Int32)) fun σ1 =>
      chk (ckO σ1 0 l0) <|
      chk (ckV (gR σ1 l0 14)) <|
      chk (ckG σ1 (gR σ1 l0 14) l1) <|
      if l1 = l2 then
        DX1_empty_94 K53 (DX1_empty_61 K53 n) l0 l1 l2 (gR σ1 l0 14) l1.toNatClampNeg l2 (0 : Int32) σ1
      else
        DX1_empty_94 K53 (DX1_empty_61 K53 n) l0 l1 l2 (gR σ1 l0 14) l1.toNatClampNeg l2 (1000000 : Int32) σ1
theorem tX1_empty_61 {r : Unit} {σ' : Sg} (C : Cx E p s m args meth c RX1 cX1_empty 3) (hr : meth.sig.returnType = none) {K53 : Nat → Int32 → Sg → Option (Unit × Sg)} (hK53 : ∀ (l0 : Nat) (l1 : Int32) (σ : Sg), K53 l0 l1 σ = some (r, σ') → Y E p l e (rmA 1 0 0) s m args below meth c none σ' 0 0 3 0 0 σ 53 [some (.ref (ad E l0)), some (.int l1), none] []) : ∀ (n : Nat) (l0 : Nat) (l1 : Int32) (l2 : Int32) (σ : Sg) (h : DX1_empty_61 K53 n l0 l1 l2 σ = some (r, σ')), Y E p l e (rmA 1 0 0) s m args below meth c none σ' 0 0 3 0 0 σ 61 [some (.ref (ad E l0)), some (.int l1), some (.int l2)] [] := by
  intro n
  induction n with
  | zero => intro l0 l1 l2 σ h; cases h
  | succ n ih =>
    intro l0 l1 l2 σ h
    unfold DX1_empty_61 at h
    refine x_iload_n (pc := 61) C dX1_empty_61 rfl rfl ?_
    refine x_bipush (v := 12) (pc := 62) C dX1_empty_62 (by decide) ?_
    refine x_icmp_ge (pc := 64) (tgt := 101) C dX1_empty_64 (by decide) (fun q => ?_) (fun q => ?_)
    · rw [if_pos q] at h
      exact x_sub (tX1_empty_101 C hr hK53 h) (xLe_s (xLe_s (xLe_n xLe_0)))
    · rw [if_neg q] at h
      refine x_aload_n (pc := 67) C dX1_empty_67 rfl rfl ?_
      obtain ⟨k, h⟩ := chk_s h
      have k2 := k
      obtain ⟨k, h⟩ := chk_s h
      refine x_getR (pc := 68) C fX1_55 rfl k2 k dX1_empty_68 ?_
      refine x_iload_n (pc := 71) C dX1_empty_71 rfl rfl ?_
      obtain ⟨k, h⟩ := chk_s h
      refine x_gald (pc := 72) C k dX1_empty_72 ?_
      refine x_iload_n (pc := 73) C dX1_empty_73 rfl rfl ?_
      refine x_iconst (v := 0) (pc := 74) C dX1_empty_74 (by decide) ?_
      obtain ⟨k, h⟩ := chk_s h
      obtain ⟨σ1, e1, h⟩ := wlet_s h
      refine x_rast (pc := 75) C k dX1_empty_75 (x_eq e1 ?_)
      refine x_aload_n (pc := 76) C dX1_empty_76 rfl rfl ?_
      obtain ⟨k, h⟩ := chk_s h
      have k2 := k
      obtain ⟨k, h⟩ := chk_s h
      refine x_getR (pc := 77) C fX1_58 rfl k2 k dX1_empty_77 ?_
      refine x_iload_n (pc := 80) C dX1_empty_80 rfl rfl ?_
      obtain ⟨k, h⟩ := chk_s h
      refine x_gald (pc := 81) C k dX1_empty_81 ?_
      refine x_iload_n (pc := 82) C dX1_empty_82 rfl rfl ?_
      refine x_iload_n (pc := 83) C dX1_empty_83 rfl rfl ?_
      refine x_iload_n (pc := 84) C dX1_empty_84 rfl rfl ?_
      refine x_icmp_ne (pc := 85) (tgt := 92) C dX1_empty_85 (by decide) (fun q => ?_) (fun q => ?_)
      · rw [if_pos q] at h
        refine x_iconst (v := 0) (pc := 88) C dX1_empty_88 (by decide) ?_
        refine x_goto (tgt := 94) (pc := 89) C dX1_empty_89 (by decide) ?_
        exact x_sub (tX1_empty_94 C hr hK53 ih h) (xLe_s (xLe_s (xLe_s xLe_0)))
      · rw [if_neg q] at h
        refine x_ldc (pc := 92) C kX1_76 dX1_empty_92 ?_
        exact x_sub (tX1_empty_94 C hr hK53 ih h) (xLe_s (xLe_s (xLe_s xLe_0)))
def DX1_empty_107 (σ : Sg) : Option (Unit × Sg) :=
  some ((), σ)
theorem tX1_empty_107 {r : Unit} {σ' : Sg} (C : Cx E p s m args meth c RX1 cX1_empty 3) (hr : meth.sig.returnType = none) {σ : Sg} (h : DX1_empty_107  σ = some (r, σ')) : Y E p l e (rmA 1 0 0) s m args below meth c none σ' 0 0 3 0 0 σ 107 [none, none, none] [] := by
  unfold DX1_empty_107 at h
  cases h
  exact x_vret C hr dX1_empty_107
def DX1_empty_53 : Nat → Nat → Int32 → Sg → Option (Unit × Sg)
  | 0, _, _, _ => none
  | n + 1, l0, l1, σ =>
    if (12 : Int32) ≤ l1 then
      DX1_empty_107 σ
    else
      DX1_empty_61 (DX1_empty_53 n) FU l0 l1 (0 : Int32) σ
theorem tX1_empty_53 {r : Unit} {σ' : Sg} (C : Cx E p s m args meth c RX1 cX1_empty 3) (hr : meth.sig.returnType = none) : ∀ (n : Nat) (l0 : Nat) (l1 : Int32) (σ : Sg) (h : DX1_empty_53 n l0 l1 σ = some (r, σ')), Y E p l e (rmA 1 0 0) s m args below meth c none σ' 0 0 3 0 0 σ 53 [some (.ref (ad E l0)), some (.int l1), none] [] := by
  intro n
  induction n with
  | zero => intro l0 l1 σ h; cases h
  | succ n ih =>
    intro l0 l1 σ h
    unfold DX1_empty_53 at h
    refine x_iload_n (pc := 53) C dX1_empty_53 rfl rfl ?_
    refine x_bipush (v := 12) (pc := 54) C dX1_empty_54 (by decide) ?_
    refine x_icmp_ge (pc := 56) (tgt := 107) C dX1_empty_56 (by decide) (fun q => ?_) (fun q => ?_)
    · rw [if_pos q] at h
      exact x_sub (tX1_empty_107 C hr h) (xLe_n (xLe_n (xLe_n xLe_0)))
    · rw [if_neg q] at h
      refine x_iconst (v := 0) (pc := 59) C dX1_empty_59 (by decide) ?_
      refine x_istore_n (M := [some _, some _, some _]) (pc := 60) C dX1_empty_60 rfl (by decide) rfl ?_
      exact x_sub (tX1_empty_61 C hr ih FU _ _ _ _ h) (xLe_s (xLe_s (xLe_s xLe_0)))
def DX1_empty (l0 : Nat) (σ : Sg) : Option (Unit × Sg) :=
  chk (ckO σ 0 l0) <|
  wlet (pI σ l0 0 (0 : Int32)) fun σ1 =>
  chk (ckO σ1 0 l0) <|
  wlet (pI σ1 l0 1 (0 : Int32)) fun σ2 =>
  chk (ckO σ2 0 l0) <|
  wlet (pI σ2 l0 2 (0 : Int32)) fun σ3 =>
  chk (ckO σ3 0 l0) <|
  wlet (pI σ3 l0 3 (0 : Int32)) fun σ4 =>
  chk (ckO σ4 0 l0) <|
  wlet (pI σ4 l0 4 (0 : Int32)) fun σ5 =>
  chk (ckO σ5 0 l0) <|
  wlet (pI σ5 l0 5 (0 : Int32)) fun σ6 =>
  chk (ckO σ6 0 l0) <|
  wlet (pI σ6 l0 6 (0 : Int32)) fun σ7 =>
  chk (ckO σ7 0 l0) <|
  wlet (pI σ7 l0 7 (10 : Int32)) fun σ8 =>
  chk (ckO σ8 0 l0) <|
  chk (ck01 (0 : Int32)) <|
  wlet (pI σ8 l0 8 (0 : Int32)) fun σ9 =>
  chk (ckO σ9 0 l0) <|
  wlet (pI σ9 l0 9 (0 : Int32)) fun σ10 =>
  DX1_empty_53 FU l0 (0 : Int32) σ10
theorem mX1_empty (E : Ev) (l : Launch) {l0 : Nat} {σ : Sg} {r : Unit} {σ' : Sg} (h : DX1_empty l0 σ = some (r, σ')) : Mt E l yX1_empty cX1_empty 3 none 1 0 0 [.ref (ad E l0)] σ none σ' := by
  refine Mt.ofX (by decide) (Nat.le_of_ble_eq_true rfl) (L0 := [some (.ref (ad E l0)), none, none]) (xEntN_ok [.ref (ad E l0)] 3) (fun p e s m args below meth c C hr hn => ?_)
  unfold DX1_empty at h
  refine x_aload_n (pc := 0) C dX1_empty_0 rfl rfl ?_
  refine x_iconst (v := 0) (pc := 1) C dX1_empty_1 (by decide) ?_
  obtain ⟨k, h⟩ := chk_s h
  obtain ⟨σ1, e1, h⟩ := wlet_s h
  refine x_putI (pc := 2) C pX1_9 rfl k dX1_empty_2 (x_eq e1 ?_)
  refine x_aload_n (pc := 5) C dX1_empty_5 rfl rfl ?_
  refine x_iconst (v := 0) (pc := 6) C dX1_empty_6 (by decide) ?_
  obtain ⟨k, h⟩ := chk_s h
  obtain ⟨σ2, e1, h⟩ := wlet_s h
  refine x_putI (pc := 7) C pX1_15 rfl k dX1_empty_7 (x_eq e1 ?_)
  refine x_aload_n (pc := 10) C dX1_empty_10 rfl rfl ?_
  refine x_iconst (v := 0) (pc := 11) C dX1_empty_11 (by decide) ?_
  obtain ⟨k, h⟩ := chk_s h
  obtain ⟨σ3, e1, h⟩ := wlet_s h
  refine x_putI (pc := 12) C pX1_18 rfl k dX1_empty_12 (x_eq e1 ?_)
  refine x_aload_n (pc := 15) C dX1_empty_15 rfl rfl ?_
  refine x_iconst (v := 0) (pc := 16) C dX1_empty_16 (by decide) ?_
  obtain ⟨k, h⟩ := chk_s h
  obtain ⟨σ4, e1, h⟩ := wlet_s h
  refine x_putI (pc := 17) C pX1_21 rfl k dX1_empty_17 (x_eq e1 ?_)
  refine x_aload_n (pc := 20) C dX1_empty_20 rfl rfl ?_
  refine x_iconst (v := 0) (pc := 21) C dX1_empty_21 (by decide) ?_
  obtain ⟨k, h⟩ := chk_s h
  obtain ⟨σ5, e1, h⟩ := wlet_s h
  refine x_putI (pc := 22) C pX1_24 rfl k dX1_empty_22 (x_eq e1 ?_)
  refine x_aload_n (pc := 25) C dX1_empty_25 rfl rfl ?_
  refine x_iconst (v := 0) (pc := 26) C dX1_empty_26 (by decide) ?_
  obtain ⟨k, h⟩ := chk_s h
  obtain ⟨σ6, e1, h⟩ := wlet_s h
  refine x_putI (pc := 27) C pX1_27 rfl k dX1_empty_27 (x_eq e1 ?_)
  refine x_aload_n (pc := 30) C dX1_empty_30 rfl rfl ?_
  refine x_iconst (v := 0) (pc := 31) C dX1_empty_31 (by decide) ?_
  obtain ⟨k, h⟩ := chk_s h
  obtain ⟨σ7, e1, h⟩ := wlet_s h
  refine x_putI (pc := 32) C pX1_30 rfl k dX1_empty_32 (x_eq e1 ?_)
  refine x_aload_n (pc := 35) C dX1_empty_35 rfl rfl ?_
  refine x_bipush (v := 10) (pc := 36) C dX1_empty_36 (by decide) ?_
  obtain ⟨k, h⟩ := chk_s h
  obtain ⟨σ8, e1, h⟩ := wlet_s h
  refine x_putI (pc := 38) C pX1_33 rfl k dX1_empty_38 (x_eq e1 ?_)
  refine x_aload_n (pc := 41) C dX1_empty_41 rfl rfl ?_
  refine x_iconst (v := 0) (pc := 42) C dX1_empty_42 (by decide) ?_
  obtain ⟨k, h⟩ := chk_s h
  have k2 := k
  obtain ⟨k, h⟩ := chk_s h
  obtain ⟨σ9, e1, h⟩ := wlet_s h
  refine x_putZ (pc := 43) C pX1_36 rfl k2 k dX1_empty_43 (x_eq e1 ?_)
  refine x_aload_n (pc := 46) C dX1_empty_46 rfl rfl ?_
  refine x_iconst (v := 0) (pc := 47) C dX1_empty_47 (by decide) ?_
  obtain ⟨k, h⟩ := chk_s h
  obtain ⟨σ10, e1, h⟩ := wlet_s h
  refine x_putI (pc := 48) C pX1_40 rfl k dX1_empty_48 (x_eq e1 ?_)
  refine x_iconst (v := 0) (pc := 51) C dX1_empty_51 (by decide) ?_
  refine x_istore_n (M := [some _, some _, none]) (pc := 52) C dX1_empty_52 rfl (by decide) rfl ?_
  exact x_sub (tX1_empty_53 C hr FU _ _ _ h) (xLe_s (xLe_s (xLe_n xLe_0)))
def DX1_indexOf_25 (l4 : Int32) (σ : Sg) : Option (Int32 × Sg) :=
  some (l4, σ)
theorem tX1_indexOf_25 {r : Int32} {σ' : Sg} (C : Cx E p s m args meth c RX1 cX1_indexOf 5) (hr : meth.sig.returnType = (some .int)) {l4 : Int32} {σ : Sg} (h : DX1_indexOf_25 l4 σ = some (r, σ')) : Y E p l e (rmA 1 0 0) s m args below meth c (some (.int r)) σ' 0 0 5 0 0 σ 25 [none, none, none, none, some (.int l4)] [] := by
  unfold DX1_indexOf_25 at h
  refine x_iload (pc := 25) C dX1_indexOf_25 rfl ?_
  cases h
  exact x_iret C hr dX1_indexOf_27
def DX1_indexOf_34 (σ : Sg) : Option (Int32 × Sg) :=
  some ((-1 : Int32), σ)
theorem tX1_indexOf_34 {r : Int32} {σ' : Sg} (C : Cx E p s m args meth c RX1 cX1_indexOf 5) (hr : meth.sig.returnType = (some .int)) {σ : Sg} (h : DX1_indexOf_34  σ = some (r, σ')) : Y E p l e (rmA 1 0 0) s m args below meth c (some (.int r)) σ' 0 0 5 0 0 σ 34 [none, none, none, none, none] [] := by
  unfold DX1_indexOf_34 at h
  refine x_iconst (v := -1) (pc := 34) C dX1_indexOf_34 (by decide) ?_
  cases h
  exact x_iret C hr dX1_indexOf_35
def DX1_indexOf_3 : Nat → Int64 → Nat → Int32 → Int32 → Sg → Option (Int32 × Sg)
  | 0, _, _, _, _, _ => none
  | n + 1, l0, l2, l3, l4, σ =>
    if l3 ≤ l4 then
      DX1_indexOf_34 σ
    else
      chk (ckL σ l2) <|
      if (nI (shp l2).2.1) ≤ l4 then
        DX1_indexOf_34 σ
      else
        chk (ckJ σ l2 l4) <|
        if (aJ σ l2 l4.toNatClampNeg) = l0 then
          DX1_indexOf_25 l4 σ
        else
          DX1_indexOf_3 n l0 l2 l3 (l4 + (1 : Int32)) σ
theorem tX1_indexOf_3 {r : Int32} {σ' : Sg} (C : Cx E p s m args meth c RX1 cX1_indexOf 5) (hr : meth.sig.returnType = (some .int)) : ∀ (n : Nat) (l0 : Int64) (l2 : Nat) (l3 : Int32) (l4 : Int32) (σ : Sg) (h : DX1_indexOf_3 n l0 l2 l3 l4 σ = some (r, σ')), Y E p l e (rmA 1 0 0) s m args below meth c (some (.int r)) σ' 0 0 5 0 0 σ 3 [some (.long l0), none, some (.ref (ad E l2)), some (.int l3), some (.int l4)] [] := by
  intro n
  induction n with
  | zero => intro l0 l2 l3 l4 σ h; cases h
  | succ n ih =>
    intro l0 l2 l3 l4 σ h
    unfold DX1_indexOf_3 at h
    refine x_iload (pc := 3) C dX1_indexOf_3 rfl ?_
    refine x_iload_n (pc := 5) C dX1_indexOf_5 rfl rfl ?_
    refine x_icmp_ge (pc := 6) (tgt := 34) C dX1_indexOf_6 (by decide) (fun q => ?_) (fun q => ?_)
    · rw [if_pos q] at h
      exact x_sub (tX1_indexOf_34 C hr h) (xLe_n (xLe_n (xLe_n (xLe_n (xLe_n xLe_0)))))
    · rw [if_neg q] at h
      refine x_iload (pc := 9) C dX1_indexOf_9 rfl ?_
      refine x_aload_n (pc := 11) C dX1_indexOf_11 rfl rfl ?_
      obtain ⟨k, h⟩ := chk_s h
      refine x_alen (pc := 12) C k dX1_indexOf_12 ?_
      refine x_icmp_ge (pc := 13) (tgt := 34) C dX1_indexOf_13 (by decide) (fun q => ?_) (fun q => ?_)
      · rw [if_pos q] at h
        exact x_sub (tX1_indexOf_34 C hr h) (xLe_n (xLe_n (xLe_n (xLe_n (xLe_n xLe_0)))))
      · rw [if_neg q] at h
        refine x_aload_n (pc := 16) C dX1_indexOf_16 rfl rfl ?_
        refine x_iload (pc := 17) C dX1_indexOf_17 rfl ?_
        obtain ⟨k, h⟩ := chk_s h
        refine x_lald (pc := 19) C k dX1_indexOf_19 ?_
        refine x_lload_n (pc := 20) C dX1_indexOf_20 rfl rfl ?_
        refine x_lcmp (pc := 21) C dX1_indexOf_21 ?_
        refine x_lif_ne (pc := 22) (tgt := 28) C dX1_indexOf_22 (by decide) (fun q => ?_) (fun q => ?_)
        · rw [if_pos q] at h
          exact x_sub (tX1_indexOf_25 C hr h) (xLe_n (xLe_n (xLe_n (xLe_n (xLe_s xLe_0)))))
        · rw [if_neg q] at h
          refine x_iinc (v := 1) (M := [some _, none, some _, some _, some _]) (pc := 28) C dX1_indexOf_28 rfl (by decide) (by decide) rfl ?_
          refine x_goto (tgt := 3) (pc := 31) C dX1_indexOf_31 (by decide) ?_
          exact x_sub (ih _ _ _ _ _ h) (xLe_s (xLe_n (xLe_s (xLe_s (xLe_s xLe_0)))))
def DX1_indexOf (l0 : Int64) (l2 : Nat) (l3 : Int32) (σ : Sg) : Option (Int32 × Sg) :=
  DX1_indexOf_3 FU l0 l2 l3 (0 : Int32) σ
theorem mX1_indexOf (E : Ev) (l : Launch) {l0 : Int64} {l2 : Nat} {l3 : Int32} {σ : Sg} {r : Int32} {σ' : Sg} (h : DX1_indexOf l0 l2 l3 σ = some (r, σ')) : Mt E l yX1_indexOf cX1_indexOf 5 (some .int) 1 0 0 [.long l0, .ref (ad E l2), .int l3] σ (some (.int r)) σ' := by
  refine Mt.ofX (by decide) (Nat.le_of_ble_eq_true rfl) (L0 := [some (.long l0), none, some (.ref (ad E l2)), some (.int l3), none]) (xEntN_ok [.long l0, .ref (ad E l2), .int l3] 5) (fun p e s m args below meth c C hr hn => ?_)
  unfold DX1_indexOf at h
  refine x_iconst (v := 0) (pc := 0) C dX1_indexOf_0 (by decide) ?_
  refine x_istore (M := [some _, none, some _, some _, some _]) (pc := 1) C dX1_indexOf_1 (by decide) rfl ?_
  exact x_sub (tX1_indexOf_3 C hr FU _ _ _ _ _ h) (xLe_s (xLe_n (xLe_s (xLe_s (xLe_s xLe_0)))))
def DX1_placeNamed (l0 : Nat) (l1 : Int64) (σ : Sg) : Option (Int32 × Sg) :=
  chk (ckO σ 0 l0) <|
  chk (ckV (gR σ l0 10)) <|
  chk (ckO σ 0 l0) <|
  bnd (DX1_indexOf l1 (gR σ l0 10) (gI σ l0 1) σ) fun v1 σ2 =>
  some (v1, σ2)
theorem mX1_placeNamed (E : Ev) (l : Launch) {l0 : Nat} {l1 : Int64} {σ : Sg} {r : Int32} {σ' : Sg} (h : DX1_placeNamed l0 l1 σ = some (r, σ')) : Mt E l yX1_placeNamed cX1_placeNamed 3 (some .int) 2 0 0 [.ref (ad E l0), .long l1] σ (some (.int r)) σ' := by
  refine Mt.ofX (by decide) (Nat.le_of_ble_eq_true rfl) (L0 := [some (.ref (ad E l0)), some (.long l1), none]) (xEntN_ok [.ref (ad E l0), .long l1] 3) (fun p e s m args below meth c C hr hn => ?_)
  unfold DX1_placeNamed at h
  refine x_lload_n (pc := 0) C dX1_placeNamed_0 rfl rfl ?_
  refine x_aload_n (pc := 1) C dX1_placeNamed_1 rfl rfl ?_
  obtain ⟨k, h⟩ := chk_s h
  have k2 := k
  obtain ⟨k, h⟩ := chk_s h
  refine x_getR (pc := 2) C fX1_43 rfl k2 k dX1_placeNamed_2 ?_
  refine x_aload_n (pc := 5) C dX1_placeNamed_5 rfl rfl ?_
  obtain ⟨k, h⟩ := chk_s h
  refine x_getI (pc := 6) C fX1_15 rfl k dX1_placeNamed_6 ?_
  obtain ⟨v1, σ2, k, h⟩ := bnd_s h
  refine x_callS1 (pc := 9) C (mX1_indexOf E l k) cX1_77 zX1_indexOf rfl rfl (Nat.le_of_ble_eq_true rfl) ⟨Nat.le_of_ble_eq_true rfl, Nat.le_of_ble_eq_true rfl, Nat.le_of_ble_eq_true rfl, Nat.le_of_ble_eq_true rfl⟩ dX1_placeNamed_9 ?_
  cases h
  exact x_iret C hr dX1_placeNamed_12
def DX1_carrierNamed (l0 : Nat) (l1 : Int64) (σ : Sg) : Option (Int32 × Sg) :=
  chk (ckO σ 0 l0) <|
  chk (ckV (gR σ l0 11)) <|
  chk (ckO σ 0 l0) <|
  bnd (DX1_indexOf l1 (gR σ l0 11) (gI σ l0 2) σ) fun v1 σ2 =>
  some (v1, σ2)
theorem mX1_carrierNamed (E : Ev) (l : Launch) {l0 : Nat} {l1 : Int64} {σ : Sg} {r : Int32} {σ' : Sg} (h : DX1_carrierNamed l0 l1 σ = some (r, σ')) : Mt E l yX1_carrierNamed cX1_carrierNamed 3 (some .int) 2 0 0 [.ref (ad E l0), .long l1] σ (some (.int r)) σ' := by
  refine Mt.ofX (by decide) (Nat.le_of_ble_eq_true rfl) (L0 := [some (.ref (ad E l0)), some (.long l1), none]) (xEntN_ok [.ref (ad E l0), .long l1] 3) (fun p e s m args below meth c C hr hn => ?_)
  unfold DX1_carrierNamed at h
  refine x_lload_n (pc := 0) C dX1_carrierNamed_0 rfl rfl ?_
  refine x_aload_n (pc := 1) C dX1_carrierNamed_1 rfl rfl ?_
  obtain ⟨k, h⟩ := chk_s h
  have k2 := k
  obtain ⟨k, h⟩ := chk_s h
  refine x_getR (pc := 2) C fX1_47 rfl k2 k dX1_carrierNamed_2 ?_
  refine x_aload_n (pc := 5) C dX1_carrierNamed_5 rfl rfl ?_
  obtain ⟨k, h⟩ := chk_s h
  refine x_getI (pc := 6) C fX1_18 rfl k dX1_carrierNamed_6 ?_
  obtain ⟨v1, σ2, k, h⟩ := bnd_s h
  refine x_callS1 (pc := 9) C (mX1_indexOf E l k) cX1_77 zX1_indexOf rfl rfl (Nat.le_of_ble_eq_true rfl) ⟨Nat.le_of_ble_eq_true rfl, Nat.le_of_ble_eq_true rfl, Nat.le_of_ble_eq_true rfl, Nat.le_of_ble_eq_true rfl⟩ dX1_carrierNamed_9 ?_
  cases h
  exact x_iret C hr dX1_carrierNamed_12
def DX1_knows_39 (s0 : Int32) (σ : Sg) : Option (Int32 × Sg) :=
  chk (ck01 s0) <|
  some (s0, σ)
theorem tX1_knows_39 {r : Int32} {σ' : Sg} (C : Cx E p s m args meth c RX1 cX1_knows 3) (hr : meth.sig.returnType = (some .boolean)) {s0 : Int32} {σ : Sg} (h : DX1_knows_39 s0 σ = some (r, σ')) : Y E p l e (rmA 3 0 0) s m args below meth c (some (.int r)) σ' 0 0 3 0 0 σ 39 [none, none, none] [.int s0] := by
  unfold DX1_knows_39 at h
  obtain ⟨kz, h⟩ := chk_s h
  cases h
  exact x_zret C hr (nar_01 kz) dX1_knows_39
def DX1_knows_34 (σ : Sg) : Option (Int32 × Sg) :=
  DX1_knows_39 (1 : Int32) σ
theorem tX1_knows_34 {r : Int32} {σ' : Sg} (C : Cx E p s m args meth c RX1 cX1_knows 3) (hr : meth.sig.returnType = (some .boolean)) {σ : Sg} (h : DX1_knows_34  σ = some (r, σ')) : Y E p l e (rmA 3 0 0) s m args below meth c (some (.int r)) σ' 0 0 3 0 0 σ 34 [none, none, none] [] := by
  unfold DX1_knows_34 at h
  refine x_iconst (v := 1) (pc := 34) C dX1_knows_34 (by decide) ?_
  refine x_goto (tgt := 39) (pc := 35) C dX1_knows_35 (by decide) ?_
  exact x_sub (tX1_knows_39 C hr h) (xLe_n (xLe_n (xLe_n xLe_0)))
def DX1_knows (l0 : Nat) (l1 : Int64) (σ : Sg) : Option (Int32 × Sg) :=
  chk (ckO σ 0 l0) <|
  bnd (DX1_placeNamed l0 l1 σ) fun v1 σ2 =>
  if v1 = (-1 : Int32) then
    chk (ckO σ2 0 l0) <|
    bnd (DX1_carrierNamed l0 l1 σ2) fun v3 σ4 =>
    if v3 = (-1 : Int32) then
      chk (ckO σ4 0 l0) <|
      chk (ckV (gR σ4 l0 12)) <|
      chk (ckO σ4 0 l0) <|
      bnd (DX1_indexOf l1 (gR σ4 l0 12) (gI σ4 l0 9) σ4) fun v5 σ6 =>
      if v5 = (-1 : Int32) then
        DX1_knows_39 (0 : Int32) σ6
      else
        DX1_knows_34 σ6
    else
      DX1_knows_34 σ4
  else
    DX1_knows_34 σ2
theorem mX1_knows (E : Ev) (l : Launch) {l0 : Nat} {l1 : Int64} {σ : Sg} {r : Int32} {σ' : Sg} (h : DX1_knows l0 l1 σ = some (r, σ')) : Mt E l yX1_knows cX1_knows 3 (some .boolean) 3 0 0 [.ref (ad E l0), .long l1] σ (some (.int r)) σ' := by
  refine Mt.ofX (by decide) (Nat.le_of_ble_eq_true rfl) (L0 := [some (.ref (ad E l0)), some (.long l1), none]) (xEntN_ok [.ref (ad E l0), .long l1] 3) (fun p e s m args below meth c C hr hn => ?_)
  unfold DX1_knows at h
  refine x_aload_n (pc := 0) C dX1_knows_0 rfl rfl ?_
  refine x_lload_n (pc := 1) C dX1_knows_1 rfl rfl ?_
  obtain ⟨k, h⟩ := chk_s h
  have k2 := k
  obtain ⟨v1, σ2, k, h⟩ := bnd_s h
  refine x_callV1 (pc := 2) C (mX1_placeNamed E l k) cl0 k2 cX1_81 nX1_placeNamed sX1_placeNamed rfl rfl (Nat.le_of_ble_eq_true rfl) ⟨Nat.le_of_ble_eq_true rfl, Nat.le_of_ble_eq_true rfl, Nat.le_of_ble_eq_true rfl, Nat.le_of_ble_eq_true rfl⟩ dX1_knows_2 ?_
  refine x_iconst (v := -1) (pc := 5) C dX1_knows_5 (by decide) ?_
  refine x_icmp_ne (pc := 6) (tgt := 34) C dX1_knows_6 (by decide) (fun q => ?_) (fun q => ?_)
  · rw [if_pos q] at h
    refine x_aload_n (pc := 9) C dX1_knows_9 rfl rfl ?_
    refine x_lload_n (pc := 10) C dX1_knows_10 rfl rfl ?_
    obtain ⟨k, h⟩ := chk_s h
    have k2 := k
    obtain ⟨v3, σ4, k, h⟩ := bnd_s h
    refine x_callV1 (pc := 11) C (mX1_carrierNamed E l k) cl0 k2 cX1_85 nX1_carrierNamed sX1_carrierNamed rfl rfl (Nat.le_of_ble_eq_true rfl) ⟨Nat.le_of_ble_eq_true rfl, Nat.le_of_ble_eq_true rfl, Nat.le_of_ble_eq_true rfl, Nat.le_of_ble_eq_true rfl⟩ dX1_knows_11 ?_
    refine x_iconst (v := -1) (pc := 14) C dX1_knows_14 (by decide) ?_
    refine x_icmp_ne (pc := 15) (tgt := 34) C dX1_knows_15 (by decide) (fun q => ?_) (fun q => ?_)
    · rw [if_pos q] at h
      refine x_lload_n (pc := 18) C dX1_knows_18 rfl rfl ?_
      refine x_aload_n (pc := 19) C dX1_knows_19 rfl rfl ?_
      obtain ⟨k, h⟩ := chk_s h
      have k2 := k
      obtain ⟨k, h⟩ := chk_s h
      refine x_getR (pc := 20) C fX1_50 rfl k2 k dX1_knows_20 ?_
      refine x_aload_n (pc := 23) C dX1_knows_23 rfl rfl ?_
      obtain ⟨k, h⟩ := chk_s h
      refine x_getI (pc := 24) C fX1_40 rfl k dX1_knows_24 ?_
      obtain ⟨v5, σ6, k, h⟩ := bnd_s h
      refine x_callS1 (pc := 27) C (mX1_indexOf E l k) cX1_77 zX1_indexOf rfl rfl (Nat.le_of_ble_eq_true rfl) ⟨Nat.le_of_ble_eq_true rfl, Nat.le_of_ble_eq_true rfl, Nat.le_of_ble_eq_true rfl, Nat.le_of_ble_eq_true rfl⟩ dX1_knows_27 ?_
      refine x_iconst (v := -1) (pc := 30) C dX1_knows_30 (by decide) ?_
      refine x_icmp_eq (pc := 31) (tgt := 38) C dX1_knows_31 (by decide) (fun q => ?_) (fun q => ?_)
      · rw [if_pos q] at h
        refine x_iconst (v := 0) (pc := 38) C dX1_knows_38 (by decide) ?_
        exact x_sub (tX1_knows_39 C hr h) (xLe_n (xLe_n (xLe_n xLe_0)))
      · rw [if_neg q] at h
        exact x_sub (tX1_knows_34 C hr h) (xLe_n (xLe_n (xLe_n xLe_0)))
    · rw [if_neg q] at h
      exact x_sub (tX1_knows_34 C hr h) (xLe_n (xLe_n (xLe_n xLe_0)))
  · rw [if_neg q] at h
    exact x_sub (tX1_knows_34 C hr h) (xLe_n (xLe_n (xLe_n xLe_0)))
def DX1_addPlace (l0 : Nat) (l1 : Int64) (σ : Sg) : Option (Unit × Sg) :=
  chk (ckO σ 0 l0) <|
  chk (ckV (gR σ l0 10)) <|
  chk (ckO σ 0 l0) <|
  chk (ckJ σ (gR σ l0 10) (gI σ l0 1)) <|
  wlet (wJ σ (gR σ l0 10) (gI σ l0 1).toNatClampNeg l1) fun σ1 =>
  chk (ckO σ1 0 l0) <|
  chk (ckO σ1 0 l0) <|
  wlet (pI σ1 l0 1 ((gI σ1 l0 1) + (1 : Int32))) fun σ2 =>
  some ((), σ2)
theorem mX1_addPlace (E : Ev) (l : Launch) {l0 : Nat} {l1 : Int64} {σ : Sg} {r : Unit} {σ' : Sg} (h : DX1_addPlace l0 l1 σ = some (r, σ')) : Mt E l yX1_addPlace cX1_addPlace 3 none 1 0 0 [.ref (ad E l0), .long l1] σ none σ' := by
  refine Mt.ofX (by decide) (Nat.le_of_ble_eq_true rfl) (L0 := [some (.ref (ad E l0)), some (.long l1), none]) (xEntN_ok [.ref (ad E l0), .long l1] 3) (fun p e s m args below meth c C hr hn => ?_)
  unfold DX1_addPlace at h
  refine x_aload_n (pc := 0) C dX1_addPlace_0 rfl rfl ?_
  obtain ⟨k, h⟩ := chk_s h
  have k2 := k
  obtain ⟨k, h⟩ := chk_s h
  refine x_getR (pc := 1) C fX1_43 rfl k2 k dX1_addPlace_1 ?_
  refine x_aload_n (pc := 4) C dX1_addPlace_4 rfl rfl ?_
  obtain ⟨k, h⟩ := chk_s h
  refine x_getI (pc := 5) C fX1_15 rfl k dX1_addPlace_5 ?_
  refine x_lload_n (pc := 8) C dX1_addPlace_8 rfl rfl ?_
  obtain ⟨k, h⟩ := chk_s h
  obtain ⟨σ1, e1, h⟩ := wlet_s h
  refine x_last (pc := 9) C k dX1_addPlace_9 (x_eq e1 ?_)
  refine x_aload_n (pc := 10) C dX1_addPlace_10 rfl rfl ?_
  refine x_dup (pc := 11) C dX1_addPlace_11 rfl ?_
  obtain ⟨k, h⟩ := chk_s h
  refine x_getI (pc := 12) C fX1_15 rfl k dX1_addPlace_12 ?_
  refine x_iconst (v := 1) (pc := 15) C dX1_addPlace_15 (by decide) ?_
  refine x_iadd (pc := 16) C dX1_addPlace_16 ?_
  obtain ⟨k, h⟩ := chk_s h
  obtain ⟨σ2, e1, h⟩ := wlet_s h
  refine x_putI (pc := 17) C pX1_15 rfl k dX1_addPlace_17 (x_eq e1 ?_)
  cases h
  exact x_vret C hr dX1_addPlace_20
def DX1_addCarrier (l0 : Nat) (l1 : Int64) (σ : Sg) : Option (Unit × Sg) :=
  chk (ckO σ 0 l0) <|
  chk (ckV (gR σ l0 11)) <|
  chk (ckO σ 0 l0) <|
  chk (ckJ σ (gR σ l0 11) (gI σ l0 2)) <|
  wlet (wJ σ (gR σ l0 11) (gI σ l0 2).toNatClampNeg l1) fun σ1 =>
  chk (ckO σ1 0 l0) <|
  chk (ckO σ1 0 l0) <|
  wlet (pI σ1 l0 2 ((gI σ1 l0 2) + (1 : Int32))) fun σ2 =>
  some ((), σ2)
theorem mX1_addCarrier (E : Ev) (l : Launch) {l0 : Nat} {l1 : Int64} {σ : Sg} {r : Unit} {σ' : Sg} (h : DX1_addCarrier l0 l1 σ = some (r, σ')) : Mt E l yX1_addCarrier cX1_addCarrier 3 none 1 0 0 [.ref (ad E l0), .long l1] σ none σ' := by
  refine Mt.ofX (by decide) (Nat.le_of_ble_eq_true rfl) (L0 := [some (.ref (ad E l0)), some (.long l1), none]) (xEntN_ok [.ref (ad E l0), .long l1] 3) (fun p e s m args below meth c C hr hn => ?_)
  unfold DX1_addCarrier at h
  refine x_aload_n (pc := 0) C dX1_addCarrier_0 rfl rfl ?_
  obtain ⟨k, h⟩ := chk_s h
  have k2 := k
  obtain ⟨k, h⟩ := chk_s h
  refine x_getR (pc := 1) C fX1_47 rfl k2 k dX1_addCarrier_1 ?_
  refine x_aload_n (pc := 4) C dX1_addCarrier_4 rfl rfl ?_
  obtain ⟨k, h⟩ := chk_s h
  refine x_getI (pc := 5) C fX1_18 rfl k dX1_addCarrier_5 ?_
  refine x_lload_n (pc := 8) C dX1_addCarrier_8 rfl rfl ?_
  obtain ⟨k, h⟩ := chk_s h
  obtain ⟨σ1, e1, h⟩ := wlet_s h
  refine x_last (pc := 9) C k dX1_addCarrier_9 (x_eq e1 ?_)
  refine x_aload_n (pc := 10) C dX1_addCarrier_10 rfl rfl ?_
  refine x_dup (pc := 11) C dX1_addCarrier_11 rfl ?_
  obtain ⟨k, h⟩ := chk_s h
  refine x_getI (pc := 12) C fX1_18 rfl k dX1_addCarrier_12 ?_
  refine x_iconst (v := 1) (pc := 15) C dX1_addCarrier_15 (by decide) ?_
  refine x_iadd (pc := 16) C dX1_addCarrier_16 ?_
  obtain ⟨k, h⟩ := chk_s h
  obtain ⟨σ2, e1, h⟩ := wlet_s h
  refine x_putI (pc := 17) C pX1_18 rfl k dX1_addCarrier_17 (x_eq e1 ?_)
  cases h
  exact x_vret C hr dX1_addCarrier_20
def DX1_addLeg_134 (K31 : Nat → Int32 → Int32 → Int32 → Int32 → Sg → Option (Unit × Sg)) (l0 : Nat) (l1 : Int32) (l2 : Int32) (l3 : Int32) (l4 : Int32) (σ : Sg) : Option (Unit × Sg) :=
  K31 l0 l1 l2 l3 (l4 + (1 : Int32)) σ
theorem tX1_addLeg_134 {r : Unit} {σ' : Sg} (C : Cx E p s m args meth c RX1 cX1_addLeg 8) (hr : meth.sig.returnType = none) {K31 : Nat → Int32 → Int32 → Int32 → Int32 → Sg → Option (Unit × Sg)} (hK31 : ∀ (l0 : Nat) (l1 : Int32) (l2 : Int32) (l3 : Int32) (l4 : Int32) (σ : Sg), K31 l0 l1 l2 l3 l4 σ = some (r, σ') → Y E p l e (rmA 1 0 0) s m args below meth c none σ' 0 0 8 0 0 σ 31 [some (.ref (ad E l0)), some (.int l1), some (.int l2), some (.int l3), some (.int l4), none, none, none] []) {l0 : Nat} {l1 : Int32} {l2 : Int32} {l3 : Int32} {l4 : Int32} {σ : Sg} (h : DX1_addLeg_134 K31 l0 l1 l2 l3 l4 σ = some (r, σ')) : Y E p l e (rmA 1 0 0) s m args below meth c none σ' 0 0 8 0 0 σ 134 [some (.ref (ad E l0)), some (.int l1), some (.int l2), some (.int l3), some (.int l4), none, none, none] [] := by
  unfold DX1_addLeg_134 at h
  refine x_iinc (v := 1) (M := [some _, some _, some _, some _, some _, none, none, none]) (pc := 134) C dX1_addLeg_134 rfl (by decide) (by decide) rfl ?_
  refine x_goto (tgt := 31) (pc := 137) C dX1_addLeg_137 (by decide) ?_
  exact x_sub (hK31 _ _ _ _ _ _ h) (xLe_s (xLe_s (xLe_s (xLe_s (xLe_s (xLe_n (xLe_n (xLe_n xLe_0))))))))
def DX1_addLeg_43 (K31 : Nat → Int32 → Int32 → Int32 → Int32 → Sg → Option (Unit × Sg)) : Nat → Nat → Int32 → Int32 → Int32 → Int32 → Int32 → Sg → Option (Unit × Sg)
  | 0, _, _, _, _, _, _, _ => none
  | n + 1, l0, l1, l2, l3, l4, l5, σ =>
    chk (ckO σ 0 l0) <|
    if (gI σ l0 1) ≤ l5 then
      DX1_addLeg_134 K31 l0 l1 l2 l3 l4 σ
    else
      chk (ckO σ 0 l0) <|
      chk (ckV (gR σ l0 14)) <|
      chk (ckG σ (gR σ l0 14) l4) <|
      chk (ckR σ (gR σ l0 14) l4.toNatClampNeg l1) <|
      chk (ckO σ 0 l0) <|
      chk (ckV (gR σ l0 14)) <|
      chk (ckG σ (gR σ l0 14) l2) <|
      chk (ckR σ (gR σ l0 14) l2.toNatClampNeg l5) <|
      chk (ckO σ 0 l0) <|
      chk (ckV (gR σ l0 14)) <|
      chk (ckG σ (gR σ l0 14) l4) <|
      chk (ckR σ (gR σ l0 14) l4.toNatClampNeg l2) <|
      chk (ckO σ 0 l0) <|
      chk (ckV (gR σ l0 14)) <|
      chk (ckG σ (gR σ l0 14) l1) <|
      chk (ckR σ (gR σ l0 14) l1.toNatClampNeg l5) <|
      chk (ckO σ 0 l0) <|
      chk (ckV (gR σ l0 14)) <|
      chk (ckG σ (gR σ l0 14) l4) <|
      chk (ckO σ 0 l0) <|
      chk (ckV (gR σ l0 14)) <|
      chk (ckG σ (gR σ l0 14) l4) <|
      chk (ckR σ (gR σ l0 14) l4.toNatClampNeg l5) <|
      chk (ckR σ (gR σ l0 14) l4.toNatClampNeg l5) <|
      wlet (wG σ (gR σ l0 14) l4.toNatClampNeg l5.toNatClampNeg (imin (aG σ (gR σ l0 14) l4.toNatClampNeg l5.toNatClampNeg) (imin (((aG σ (gR σ l0 14) l4.toNatClampNeg l1.toNatClampNeg) + l3) + (aG σ (gR σ l0 14) l2.toNatClampNeg l5.toNatClampNeg)) (((aG σ (gR σ l0 14) l4.toNatClampNeg l2.toNatClampNeg) + l3) + (aG σ (gR σ l0 14) l1.toNatClampNeg l5.toNatClampNeg))))) fun σ1 =>
      DX1_addLeg_43 K31 n l0 l1 l2 l3 l4 (l5 + (1 : Int32)) σ1
theorem tX1_addLeg_43 {r : Unit} {σ' : Sg} (C : Cx E p s m args meth c RX1 cX1_addLeg 8) (hr : meth.sig.returnType = none) {K31 : Nat → Int32 → Int32 → Int32 → Int32 → Sg → Option (Unit × Sg)} (hK31 : ∀ (l0 : Nat) (l1 : Int32) (l2 : Int32) (l3 : Int32) (l4 : Int32) (σ : Sg), K31 l0 l1 l2 l3 l4 σ = some (r, σ') → Y E p l e (rmA 1 0 0) s m args below meth c none σ' 0 0 8 0 0 σ 31 [some (.ref (ad E l0)), some (.int l1), some (.int l2), some (.int l3), some (.int l4), none, none, none] []) : ∀ (n : Nat) (l0 : Nat) (l1 : Int32) (l2 : Int32) (l3 : Int32) (l4 : Int32) (l5 : Int32) (σ : Sg) (h : DX1_addLeg_43 K31 n l0 l1 l2 l3 l4 l5 σ = some (r, σ')), Y E p l e (rmA 1 0 0) s m args below meth c none σ' 0 0 8 0 0 σ 43 [some (.ref (ad E l0)), some (.int l1), some (.int l2), some (.int l3), some (.int l4), some (.int l5), none, none] [] := by
  intro n
  induction n with
  | zero => intro l0 l1 l2 l3 l4 l5 σ h; cases h
  | succ n ih =>
    intro l0 l1 l2 l3 l4 l5 σ h
    unfold DX1_addLeg_43 at h
    refine x_iload (pc := 43) C dX1_addLeg_43 rfl ?_
    refine x_aload_n (pc := 45) C dX1_addLeg_45 rfl rfl ?_
    obtain ⟨k, h⟩ := chk_s h
    refine x_getI (pc := 46) C fX1_15 rfl k dX1_addLeg_46 ?_
    refine x_icmp_ge (pc := 49) (tgt := 134) C dX1_addLeg_49 (by decide) (fun q => ?_) (fun q => ?_)
    · rw [if_pos q] at h
      exact x_sub (tX1_addLeg_134 C hr hK31 h) (xLe_s (xLe_s (xLe_s (xLe_s (xLe_s (xLe_n (xLe_n (xLe_n xLe_0))))))))
    · rw [if_neg q] at h
      refine x_aload_n (pc := 52) C dX1_addLeg_52 rfl rfl ?_
      obtain ⟨k, h⟩ := chk_s h
      have k2 := k
      obtain ⟨k, h⟩ := chk_s h
      refine x_getR (pc := 53) C fX1_58 rfl k2 k dX1_addLeg_53 ?_
      refine x_iload (pc := 56) C dX1_addLeg_56 rfl ?_
      obtain ⟨k, h⟩ := chk_s h
      refine x_gald (pc := 58) C k dX1_addLeg_58 ?_
      refine x_iload_n (pc := 59) C dX1_addLeg_59 rfl rfl ?_
      obtain ⟨k, h⟩ := chk_s h
      refine x_rald (pc := 60) C k dX1_addLeg_60 ?_
      refine x_iload_n (pc := 61) C dX1_addLeg_61 rfl rfl ?_
      refine x_iadd (pc := 62) C dX1_addLeg_62 ?_
      refine x_aload_n (pc := 63) C dX1_addLeg_63 rfl rfl ?_
      obtain ⟨k, h⟩ := chk_s h
      have k2 := k
      obtain ⟨k, h⟩ := chk_s h
      refine x_getR (pc := 64) C fX1_58 rfl k2 k dX1_addLeg_64 ?_
      refine x_iload_n (pc := 67) C dX1_addLeg_67 rfl rfl ?_
      obtain ⟨k, h⟩ := chk_s h
      refine x_gald (pc := 68) C k dX1_addLeg_68 ?_
      refine x_iload (pc := 69) C dX1_addLeg_69 rfl ?_
      obtain ⟨k, h⟩ := chk_s h
      refine x_rald (pc := 71) C k dX1_addLeg_71 ?_
      refine x_iadd (pc := 72) C dX1_addLeg_72 ?_
      refine x_istore (M := [some _, some _, some _, some _, some _, some _, some _, none]) (pc := 73) C dX1_addLeg_73 (by decide) rfl ?_
      refine x_aload_n (pc := 75) C dX1_addLeg_75 rfl rfl ?_
      obtain ⟨k, h⟩ := chk_s h
      have k2 := k
      obtain ⟨k, h⟩ := chk_s h
      refine x_getR (pc := 76) C fX1_58 rfl k2 k dX1_addLeg_76 ?_
      refine x_iload (pc := 79) C dX1_addLeg_79 rfl ?_
      obtain ⟨k, h⟩ := chk_s h
      refine x_gald (pc := 81) C k dX1_addLeg_81 ?_
      refine x_iload_n (pc := 82) C dX1_addLeg_82 rfl rfl ?_
      obtain ⟨k, h⟩ := chk_s h
      refine x_rald (pc := 83) C k dX1_addLeg_83 ?_
      refine x_iload_n (pc := 84) C dX1_addLeg_84 rfl rfl ?_
      refine x_iadd (pc := 85) C dX1_addLeg_85 ?_
      refine x_aload_n (pc := 86) C dX1_addLeg_86 rfl rfl ?_
      obtain ⟨k, h⟩ := chk_s h
      have k2 := k
      obtain ⟨k, h⟩ := chk_s h
      refine x_getR (pc := 87) C fX1_58 rfl k2 k dX1_addLeg_87 ?_
      refine x_iload_n (pc := 90) C dX1_addLeg_90 rfl rfl ?_
      obtain ⟨k, h⟩ := chk_s h
      refine x_gald (pc := 91) C k dX1_addLeg_91 ?_
      refine x_iload (pc := 92) C dX1_addLeg_92 rfl ?_
      obtain ⟨k, h⟩ := chk_s h
      refine x_rald (pc := 94) C k dX1_addLeg_94 ?_
      refine x_iadd (pc := 95) C dX1_addLeg_95 ?_
      refine x_istore (M := [some _, some _, some _, some _, some _, some _, some _, some _]) (pc := 96) C dX1_addLeg_96 (by decide) rfl ?_
      refine x_aload_n (pc := 98) C dX1_addLeg_98 rfl rfl ?_
      obtain ⟨k, h⟩ := chk_s h
      have k2 := k
      obtain ⟨k, h⟩ := chk_s h
      refine x_getR (pc := 99) C fX1_58 rfl k2 k dX1_addLeg_99 ?_
      refine x_iload (pc := 102) C dX1_addLeg_102 rfl ?_
      obtain ⟨k, h⟩ := chk_s h
      refine x_gald (pc := 104) C k dX1_addLeg_104 ?_
      refine x_iload (pc := 105) C dX1_addLeg_105 rfl ?_
      refine x_aload_n (pc := 107) C dX1_addLeg_107 rfl rfl ?_
      obtain ⟨k, h⟩ := chk_s h
      have k2 := k
      obtain ⟨k, h⟩ := chk_s h
      refine x_getR (pc := 108) C fX1_58 rfl k2 k dX1_addLeg_108 ?_
      refine x_iload (pc := 111) C dX1_addLeg_111 rfl ?_
      obtain ⟨k, h⟩ := chk_s h
      refine x_gald (pc := 113) C k dX1_addLeg_113 ?_
      refine x_iload (pc := 114) C dX1_addLeg_114 rfl ?_
      obtain ⟨k, h⟩ := chk_s h
      refine x_rald (pc := 116) C k dX1_addLeg_116 ?_
      refine x_iload (pc := 117) C dX1_addLeg_117 rfl ?_
      refine x_iload (pc := 119) C dX1_addLeg_119 rfl ?_
      refine x_mmin (pc := 121) C oX1_88 mmmin1 mmi mmmin2 ⟨Nat.le_of_ble_eq_true rfl, Nat.le_of_ble_eq_true rfl, Nat.le_of_ble_eq_true rfl, Nat.le_of_ble_eq_true rfl⟩ dX1_addLeg_121 ?_
      refine x_mmin (pc := 124) C oX1_88 mmmin1 mmi mmmin2 ⟨Nat.le_of_ble_eq_true rfl, Nat.le_of_ble_eq_true rfl, Nat.le_of_ble_eq_true rfl, Nat.le_of_ble_eq_true rfl⟩ dX1_addLeg_124 ?_
      obtain ⟨k, h⟩ := chk_s h
      obtain ⟨σ1, e1, h⟩ := wlet_s h
      refine x_rast (pc := 127) C k dX1_addLeg_127 (x_eq e1 ?_)
      refine x_iinc (v := 1) (M := [some _, some _, some _, some _, some _, some _, some _, some _]) (pc := 128) C dX1_addLeg_128 rfl (by decide) (by decide) rfl ?_
      refine x_goto (tgt := 43) (pc := 131) C dX1_addLeg_131 (by decide) ?_
      exact x_sub (ih _ _ _ _ _ _ _ h) (xLe_s (xLe_s (xLe_s (xLe_s (xLe_s (xLe_s (xLe_n (xLe_n xLe_0))))))))
def DX1_addLeg_140 (σ : Sg) : Option (Unit × Sg) :=
  some ((), σ)
theorem tX1_addLeg_140 {r : Unit} {σ' : Sg} (C : Cx E p s m args meth c RX1 cX1_addLeg 8) (hr : meth.sig.returnType = none) {σ : Sg} (h : DX1_addLeg_140  σ = some (r, σ')) : Y E p l e (rmA 1 0 0) s m args below meth c none σ' 0 0 8 0 0 σ 140 [none, none, none, none, none, none, none, none] [] := by
  unfold DX1_addLeg_140 at h
  cases h
  exact x_vret C hr dX1_addLeg_140
def DX1_addLeg_31 : Nat → Nat → Int32 → Int32 → Int32 → Int32 → Sg → Option (Unit × Sg)
  | 0, _, _, _, _, _, _ => none
  | n + 1, l0, l1, l2, l3, l4, σ =>
    chk (ckO σ 0 l0) <|
    if (gI σ l0 1) ≤ l4 then
      DX1_addLeg_140 σ
    else
      DX1_addLeg_43 (DX1_addLeg_31 n) FU l0 l1 l2 l3 l4 (0 : Int32) σ
theorem tX1_addLeg_31 {r : Unit} {σ' : Sg} (C : Cx E p s m args meth c RX1 cX1_addLeg 8) (hr : meth.sig.returnType = none) : ∀ (n : Nat) (l0 : Nat) (l1 : Int32) (l2 : Int32) (l3 : Int32) (l4 : Int32) (σ : Sg) (h : DX1_addLeg_31 n l0 l1 l2 l3 l4 σ = some (r, σ')), Y E p l e (rmA 1 0 0) s m args below meth c none σ' 0 0 8 0 0 σ 31 [some (.ref (ad E l0)), some (.int l1), some (.int l2), some (.int l3), some (.int l4), none, none, none] [] := by
  intro n
  induction n with
  | zero => intro l0 l1 l2 l3 l4 σ h; cases h
  | succ n ih =>
    intro l0 l1 l2 l3 l4 σ h
    unfold DX1_addLeg_31 at h
    refine x_iload (pc := 31) C dX1_addLeg_31 rfl ?_
    refine x_aload_n (pc := 33) C dX1_addLeg_33 rfl rfl ?_
    obtain ⟨k, h⟩ := chk_s h
    refine x_getI (pc := 34) C fX1_15 rfl k dX1_addLeg_34 ?_
    refine x_icmp_ge (pc := 37) (tgt := 140) C dX1_addLeg_37 (by decide) (fun q => ?_) (fun q => ?_)
    · rw [if_pos q] at h
      exact x_sub (tX1_addLeg_140 C hr h) (xLe_n (xLe_n (xLe_n (xLe_n (xLe_n (xLe_n (xLe_n (xLe_n xLe_0))))))))
    · rw [if_neg q] at h
      refine x_iconst (v := 0) (pc := 40) C dX1_addLeg_40 (by decide) ?_
      refine x_istore (M := [some _, some _, some _, some _, some _, some _, none, none]) (pc := 41) C dX1_addLeg_41 (by decide) rfl ?_
      exact x_sub (tX1_addLeg_43 C hr ih FU _ _ _ _ _ _ _ h) (xLe_s (xLe_s (xLe_s (xLe_s (xLe_s (xLe_s (xLe_n (xLe_n xLe_0))))))))
def DX1_addLeg (l0 : Nat) (l1 : Int32) (l2 : Int32) (l3 : Int32) (σ : Sg) : Option (Unit × Sg) :=
  chk (ckO σ 0 l0) <|
  chk (ckV (gR σ l0 13)) <|
  chk (ckG σ (gR σ l0 13) l1) <|
  chk (ckR σ (gR σ l0 13) l1.toNatClampNeg l2) <|
  wlet (wG σ (gR σ l0 13) l1.toNatClampNeg l2.toNatClampNeg l3) fun σ1 =>
  chk (ckO σ1 0 l0) <|
  chk (ckV (gR σ1 l0 13)) <|
  chk (ckG σ1 (gR σ1 l0 13) l2) <|
  chk (ckR σ1 (gR σ1 l0 13) l2.toNatClampNeg l1) <|
  wlet (wG σ1 (gR σ1 l0 13) l2.toNatClampNeg l1.toNatClampNeg l3) fun σ2 =>
  chk (ckO σ2 0 l0) <|
  chk (ckO σ2 0 l0) <|
  wlet (pI σ2 l0 3 ((gI σ2 l0 3) + (1 : Int32))) fun σ3 =>
  DX1_addLeg_31 FU l0 l1 l2 l3 (0 : Int32) σ3
theorem mX1_addLeg (E : Ev) (l : Launch) {l0 : Nat} {l1 : Int32} {l2 : Int32} {l3 : Int32} {σ : Sg} {r : Unit} {σ' : Sg} (h : DX1_addLeg l0 l1 l2 l3 σ = some (r, σ')) : Mt E l yX1_addLeg cX1_addLeg 8 none 1 0 0 [.ref (ad E l0), .int l1, .int l2, .int l3] σ none σ' := by
  refine Mt.ofX (by decide) (Nat.le_of_ble_eq_true rfl) (L0 := [some (.ref (ad E l0)), some (.int l1), some (.int l2), some (.int l3), none, none, none, none]) (xEntN_ok [.ref (ad E l0), .int l1, .int l2, .int l3] 8) (fun p e s m args below meth c C hr hn => ?_)
  unfold DX1_addLeg at h
  refine x_aload_n (pc := 0) C dX1_addLeg_0 rfl rfl ?_
  obtain ⟨k, h⟩ := chk_s h
  have k2 := k
  obtain ⟨k, h⟩ := chk_s h
  refine x_getR (pc := 1) C fX1_55 rfl k2 k dX1_addLeg_1 ?_
  refine x_iload_n (pc := 4) C dX1_addLeg_4 rfl rfl ?_
  obtain ⟨k, h⟩ := chk_s h
  refine x_gald (pc := 5) C k dX1_addLeg_5 ?_
  refine x_iload_n (pc := 6) C dX1_addLeg_6 rfl rfl ?_
  refine x_iload_n (pc := 7) C dX1_addLeg_7 rfl rfl ?_
  obtain ⟨k, h⟩ := chk_s h
  obtain ⟨σ1, e1, h⟩ := wlet_s h
  refine x_rast (pc := 8) C k dX1_addLeg_8 (x_eq e1 ?_)
  refine x_aload_n (pc := 9) C dX1_addLeg_9 rfl rfl ?_
  obtain ⟨k, h⟩ := chk_s h
  have k2 := k
  obtain ⟨k, h⟩ := chk_s h
  refine x_getR (pc := 10) C fX1_55 rfl k2 k dX1_addLeg_10 ?_
  refine x_iload_n (pc := 13) C dX1_addLeg_13 rfl rfl ?_
  obtain ⟨k, h⟩ := chk_s h
  refine x_gald (pc := 14) C k dX1_addLeg_14 ?_
  refine x_iload_n (pc := 15) C dX1_addLeg_15 rfl rfl ?_
  refine x_iload_n (pc := 16) C dX1_addLeg_16 rfl rfl ?_
  obtain ⟨k, h⟩ := chk_s h
  obtain ⟨σ2, e1, h⟩ := wlet_s h
  refine x_rast (pc := 17) C k dX1_addLeg_17 (x_eq e1 ?_)
  refine x_aload_n (pc := 18) C dX1_addLeg_18 rfl rfl ?_
  refine x_dup (pc := 19) C dX1_addLeg_19 rfl ?_
  obtain ⟨k, h⟩ := chk_s h
  refine x_getI (pc := 20) C fX1_21 rfl k dX1_addLeg_20 ?_
  refine x_iconst (v := 1) (pc := 23) C dX1_addLeg_23 (by decide) ?_
  refine x_iadd (pc := 24) C dX1_addLeg_24 ?_
  obtain ⟨k, h⟩ := chk_s h
  obtain ⟨σ3, e1, h⟩ := wlet_s h
  refine x_putI (pc := 25) C pX1_21 rfl k dX1_addLeg_25 (x_eq e1 ?_)
  refine x_iconst (v := 0) (pc := 28) C dX1_addLeg_28 (by decide) ?_
  refine x_istore (M := [some _, some _, some _, some _, some _, none, none, none]) (pc := 29) C dX1_addLeg_29 (by decide) rfl ?_
  exact x_sub (tX1_addLeg_31 C hr FU _ _ _ _ _ _ h) (xLe_s (xLe_s (xLe_s (xLe_s (xLe_s (xLe_n (xLe_n (xLe_n xLe_0))))))))
def DX1_lastBand_24 (s0 : Int32) (σ : Sg) : Option (Int32 × Sg) :=
  some (s0, σ)
theorem tX1_lastBand_24 {r : Int32} {σ' : Sg} (C : Cx E p s m args meth c RX1 cX1_lastBand 1) (hr : meth.sig.returnType = (some .int)) {s0 : Int32} {σ : Sg} (h : DX1_lastBand_24 s0 σ = some (r, σ')) : Y E p l e (rmA 1 0 0) s m args below meth c (some (.int r)) σ' 0 0 1 0 0 σ 24 [none] [.int s0] := by
  unfold DX1_lastBand_24 at h
  cases h
  exact x_iret C hr dX1_lastBand_24
def DX1_lastBand (l0 : Nat) (σ : Sg) : Option (Int32 × Sg) :=
  chk (ckO σ 0 l0) <|
  if (gI σ l0 4) ≤ 0 then
    DX1_lastBand_24 (0 : Int32) σ
  else
    chk (ckO σ 0 l0) <|
    chk (ckV (gR σ l0 15)) <|
    chk (ckO σ 0 l0) <|
    chk (ckG σ (gR σ l0 15) ((gI σ l0 4) - (1 : Int32))) <|
    chk (ckR σ (gR σ l0 15) (((gI σ l0 4) - (1 : Int32)).toNatClampNeg) (0 : Int32)) <|
    DX1_lastBand_24 (aG σ (gR σ l0 15) (((gI σ l0 4) - (1 : Int32)).toNatClampNeg) (0 : Int32).toNatClampNeg) σ
theorem mX1_lastBand (E : Ev) (l : Launch) {l0 : Nat} {σ : Sg} {r : Int32} {σ' : Sg} (h : DX1_lastBand l0 σ = some (r, σ')) : Mt E l yX1_lastBand cX1_lastBand 1 (some .int) 1 0 0 [.ref (ad E l0)] σ (some (.int r)) σ' := by
  refine Mt.ofX (by decide) (Nat.le_of_ble_eq_true rfl) (L0 := [some (.ref (ad E l0))]) (xEntN_ok [.ref (ad E l0)] 1) (fun p e s m args below meth c C hr hn => ?_)
  unfold DX1_lastBand at h
  refine x_aload_n (pc := 0) C dX1_lastBand_0 rfl rfl ?_
  obtain ⟨k, h⟩ := chk_s h
  refine x_getI (pc := 1) C fX1_24 rfl k dX1_lastBand_1 ?_
  refine x_if_le (pc := 4) (tgt := 23) C dX1_lastBand_4 (by decide) (fun q => ?_) (fun q => ?_)
  · rw [if_pos q] at h
    refine x_iconst (v := 0) (pc := 23) C dX1_lastBand_23 (by decide) ?_
    exact x_sub (tX1_lastBand_24 C hr h) (xLe_n xLe_0)
  · rw [if_neg q] at h
    refine x_aload_n (pc := 7) C dX1_lastBand_7 rfl rfl ?_
    obtain ⟨k, h⟩ := chk_s h
    have k2 := k
    obtain ⟨k, h⟩ := chk_s h
    refine x_getR (pc := 8) C fX1_61 rfl k2 k dX1_lastBand_8 ?_
    refine x_aload_n (pc := 11) C dX1_lastBand_11 rfl rfl ?_
    obtain ⟨k, h⟩ := chk_s h
    refine x_getI (pc := 12) C fX1_24 rfl k dX1_lastBand_12 ?_
    refine x_iconst (v := 1) (pc := 15) C dX1_lastBand_15 (by decide) ?_
    refine x_isub (pc := 16) C dX1_lastBand_16 ?_
    obtain ⟨k, h⟩ := chk_s h
    refine x_gald (pc := 17) C k dX1_lastBand_17 ?_
    refine x_iconst (v := 0) (pc := 18) C dX1_lastBand_18 (by decide) ?_
    obtain ⟨k, h⟩ := chk_s h
    refine x_rald (pc := 19) C k dX1_lastBand_19 ?_
    refine x_goto (tgt := 24) (pc := 20) C dX1_lastBand_20 (by decide) ?_
    exact x_sub (tX1_lastBand_24 C hr h) (xLe_n xLe_0)
def DX1_addBand (l0 : Nat) (l1 : Int32) (l2 : Int32) (σ : Sg) : Option (Unit × Sg) :=
  chk (ckO σ 0 l0) <|
  chk (ckV (gR σ l0 15)) <|
  chk (ckO σ 0 l0) <|
  chk (ckG σ (gR σ l0 15) (gI σ l0 4)) <|
  chk (ckR σ (gR σ l0 15) ((gI σ l0 4).toNatClampNeg) (0 : Int32)) <|
  wlet (wG σ (gR σ l0 15) ((gI σ l0 4).toNatClampNeg) (0 : Int32).toNatClampNeg l1) fun σ1 =>
  chk (ckO σ1 0 l0) <|
  chk (ckV (gR σ1 l0 15)) <|
  chk (ckO σ1 0 l0) <|
  chk (ckG σ1 (gR σ1 l0 15) (gI σ1 l0 4)) <|
  chk (ckR σ1 (gR σ1 l0 15) ((gI σ1 l0 4).toNatClampNeg) (1 : Int32)) <|
  wlet (wG σ1 (gR σ1 l0 15) ((gI σ1 l0 4).toNatClampNeg) (1 : Int32).toNatClampNeg l2) fun σ2 =>
  chk (ckO σ2 0 l0) <|
  chk (ckO σ2 0 l0) <|
  wlet (pI σ2 l0 4 ((gI σ2 l0 4) + (1 : Int32))) fun σ3 =>
  some ((), σ3)
theorem mX1_addBand (E : Ev) (l : Launch) {l0 : Nat} {l1 : Int32} {l2 : Int32} {σ : Sg} {r : Unit} {σ' : Sg} (h : DX1_addBand l0 l1 l2 σ = some (r, σ')) : Mt E l yX1_addBand cX1_addBand 3 none 1 0 0 [.ref (ad E l0), .int l1, .int l2] σ none σ' := by
  refine Mt.ofX (by decide) (Nat.le_of_ble_eq_true rfl) (L0 := [some (.ref (ad E l0)), some (.int l1), some (.int l2)]) (xEntN_ok [.ref (ad E l0), .int l1, .int l2] 3) (fun p e s m args below meth c C hr hn => ?_)
  unfold DX1_addBand at h
  refine x_aload_n (pc := 0) C dX1_addBand_0 rfl rfl ?_
  obtain ⟨k, h⟩ := chk_s h
  have k2 := k
  obtain ⟨k, h⟩ := chk_s h
  refine x_getR (pc := 1) C fX1_61 rfl k2 k dX1_addBand_1 ?_
  refine x_aload_n (pc := 4) C dX1_addBand_4 rfl rfl ?_
  obtain ⟨k, h⟩ := chk_s h
  refine x_getI (pc := 5) C fX1_24 rfl k dX1_addBand_5 ?_
  obtain ⟨k, h⟩ := chk_s h
  refine x_gald (pc := 8) C k dX1_addBand_8 ?_
  refine x_iconst (v := 0) (pc := 9) C dX1_addBand_9 (by decide) ?_
  refine x_iload_n (pc := 10) C dX1_addBand_10 rfl rfl ?_
  obtain ⟨k, h⟩ := chk_s h
  obtain ⟨σ1, e1, h⟩ := wlet_s h
  refine x_rast (pc := 11) C k dX1_addBand_11 (x_eq e1 ?_)
  refine x_aload_n (pc := 12) C dX1_addBand_12 rfl rfl ?_
  obtain ⟨k, h⟩ := chk_s h
  have k2 := k
  obtain ⟨k, h⟩ := chk_s h
  refine x_getR (pc := 13) C fX1_61 rfl k2 k dX1_addBand_13 ?_
  refine x_aload_n (pc := 16) C dX1_addBand_16 rfl rfl ?_
  obtain ⟨k, h⟩ := chk_s h
  refine x_getI (pc := 17) C fX1_24 rfl k dX1_addBand_17 ?_
  obtain ⟨k, h⟩ := chk_s h
  refine x_gald (pc := 20) C k dX1_addBand_20 ?_
  refine x_iconst (v := 1) (pc := 21) C dX1_addBand_21 (by decide) ?_
  refine x_iload_n (pc := 22) C dX1_addBand_22 rfl rfl ?_
  obtain ⟨k, h⟩ := chk_s h
  obtain ⟨σ2, e1, h⟩ := wlet_s h
  refine x_rast (pc := 23) C k dX1_addBand_23 (x_eq e1 ?_)
  refine x_aload_n (pc := 24) C dX1_addBand_24 rfl rfl ?_
  refine x_dup (pc := 25) C dX1_addBand_25 rfl ?_
  obtain ⟨k, h⟩ := chk_s h
  refine x_getI (pc := 26) C fX1_24 rfl k dX1_addBand_26 ?_
  refine x_iconst (v := 1) (pc := 29) C dX1_addBand_29 (by decide) ?_
  refine x_iadd (pc := 30) C dX1_addBand_30 ?_
  obtain ⟨k, h⟩ := chk_s h
  obtain ⟨σ3, e1, h⟩ := wlet_s h
  refine x_putI (pc := 31) C pX1_24 rfl k dX1_addBand_31 (x_eq e1 ?_)
  cases h
  exact x_vret C hr dX1_addBand_34
def DX1_addProviso (l0 : Nat) (l1 : Int32) (l2 : Int32) (l3 : Int32) (l4 : Int32) (l5 : Int32) (l6 : Int32) (σ : Sg) : Option (Unit × Sg) :=
  chk (ckO σ 0 l0) <|
  chk (ckV (gR σ l0 16)) <|
  chk (ckO σ 0 l0) <|
  chk (ckG σ (gR σ l0 16) (gI σ l0 5)) <|
  chk (ckR σ (gR σ l0 16) ((gI σ l0 5).toNatClampNeg) (0 : Int32)) <|
  wlet (wG σ (gR σ l0 16) ((gI σ l0 5).toNatClampNeg) (0 : Int32).toNatClampNeg l1) fun σ1 =>
  chk (ckR σ1 (gR σ l0 16) ((gI σ l0 5).toNatClampNeg) (1 : Int32)) <|
  wlet (wG σ1 (gR σ l0 16) ((gI σ l0 5).toNatClampNeg) (1 : Int32).toNatClampNeg l2) fun σ2 =>
  chk (ckR σ2 (gR σ l0 16) ((gI σ l0 5).toNatClampNeg) (2 : Int32)) <|
  wlet (wG σ2 (gR σ l0 16) ((gI σ l0 5).toNatClampNeg) (2 : Int32).toNatClampNeg l3) fun σ3 =>
  chk (ckR σ3 (gR σ l0 16) ((gI σ l0 5).toNatClampNeg) (3 : Int32)) <|
  wlet (wG σ3 (gR σ l0 16) ((gI σ l0 5).toNatClampNeg) (3 : Int32).toNatClampNeg l4) fun σ4 =>
  chk (ckR σ4 (gR σ l0 16) ((gI σ l0 5).toNatClampNeg) (4 : Int32)) <|
  wlet (wG σ4 (gR σ l0 16) ((gI σ l0 5).toNatClampNeg) (4 : Int32).toNatClampNeg l5) fun σ5 =>
  chk (ckR σ5 (gR σ l0 16) ((gI σ l0 5).toNatClampNeg) (5 : Int32)) <|
  wlet (wG σ5 (gR σ l0 16) ((gI σ l0 5).toNatClampNeg) (5 : Int32).toNatClampNeg l6) fun σ6 =>
  chk (ckO σ6 0 l0) <|
  chk (ckO σ6 0 l0) <|
  wlet (pI σ6 l0 5 ((gI σ6 l0 5) + (1 : Int32))) fun σ7 =>
  some ((), σ7)
theorem mX1_addProviso (E : Ev) (l : Launch) {l0 : Nat} {l1 : Int32} {l2 : Int32} {l3 : Int32} {l4 : Int32} {l5 : Int32} {l6 : Int32} {σ : Sg} {r : Unit} {σ' : Sg} (h : DX1_addProviso l0 l1 l2 l3 l4 l5 l6 σ = some (r, σ')) : Mt E l yX1_addProviso cX1_addProviso 8 none 1 0 0 [.ref (ad E l0), .int l1, .int l2, .int l3, .int l4, .int l5, .int l6] σ none σ' := by
  refine Mt.ofX (by decide) (Nat.le_of_ble_eq_true rfl) (L0 := [some (.ref (ad E l0)), some (.int l1), some (.int l2), some (.int l3), some (.int l4), some (.int l5), some (.int l6), none]) (xEntN_ok [.ref (ad E l0), .int l1, .int l2, .int l3, .int l4, .int l5, .int l6] 8) (fun p e s m args below meth c C hr hn => ?_)
  unfold DX1_addProviso at h
  refine x_aload_n (pc := 0) C dX1_addProviso_0 rfl rfl ?_
  obtain ⟨k, h⟩ := chk_s h
  have k2 := k
  obtain ⟨k, h⟩ := chk_s h
  refine x_getR (pc := 1) C fX1_64 rfl k2 k dX1_addProviso_1 ?_
  refine x_aload_n (pc := 4) C dX1_addProviso_4 rfl rfl ?_
  obtain ⟨k, h⟩ := chk_s h
  refine x_getI (pc := 5) C fX1_27 rfl k dX1_addProviso_5 ?_
  obtain ⟨k, h⟩ := chk_s h
  refine x_gald (pc := 8) C k dX1_addProviso_8 ?_
  refine x_astore (M := [some _, some _, some _, some _, some _, some _, some _, some _]) (pc := 9) C dX1_addProviso_9 (by decide) rfl ?_
  refine x_aload (pc := 11) C dX1_addProviso_11 rfl ?_
  refine x_iconst (v := 0) (pc := 13) C dX1_addProviso_13 (by decide) ?_
  refine x_iload_n (pc := 14) C dX1_addProviso_14 rfl rfl ?_
  obtain ⟨k, h⟩ := chk_s h
  obtain ⟨σ1, e1, h⟩ := wlet_s h
  refine x_rast (pc := 15) C k dX1_addProviso_15 (x_eq e1 ?_)
  refine x_aload (pc := 16) C dX1_addProviso_16 rfl ?_
  refine x_iconst (v := 1) (pc := 18) C dX1_addProviso_18 (by decide) ?_
  refine x_iload_n (pc := 19) C dX1_addProviso_19 rfl rfl ?_
  obtain ⟨k, h⟩ := chk_s h
  obtain ⟨σ2, e1, h⟩ := wlet_s h
  refine x_rast (pc := 20) C k dX1_addProviso_20 (x_eq e1 ?_)
  refine x_aload (pc := 21) C dX1_addProviso_21 rfl ?_
  refine x_iconst (v := 2) (pc := 23) C dX1_addProviso_23 (by decide) ?_
  refine x_iload_n (pc := 24) C dX1_addProviso_24 rfl rfl ?_
  obtain ⟨k, h⟩ := chk_s h
  obtain ⟨σ3, e1, h⟩ := wlet_s h
  refine x_rast (pc := 25) C k dX1_addProviso_25 (x_eq e1 ?_)
  refine x_aload (pc := 26) C dX1_addProviso_26 rfl ?_
  refine x_iconst (v := 3) (pc := 28) C dX1_addProviso_28 (by decide) ?_
  refine x_iload (pc := 29) C dX1_addProviso_29 rfl ?_
  obtain ⟨k, h⟩ := chk_s h
  obtain ⟨σ4, e1, h⟩ := wlet_s h
  refine x_rast (pc := 31) C k dX1_addProviso_31 (x_eq e1 ?_)
  refine x_aload (pc := 32) C dX1_addProviso_32 rfl ?_
  refine x_iconst (v := 4) (pc := 34) C dX1_addProviso_34 (by decide) ?_
  refine x_iload (pc := 35) C dX1_addProviso_35 rfl ?_
  obtain ⟨k, h⟩ := chk_s h
  obtain ⟨σ5, e1, h⟩ := wlet_s h
  refine x_rast (pc := 37) C k dX1_addProviso_37 (x_eq e1 ?_)
  refine x_aload (pc := 38) C dX1_addProviso_38 rfl ?_
  refine x_iconst (v := 5) (pc := 40) C dX1_addProviso_40 (by decide) ?_
  refine x_iload (pc := 41) C dX1_addProviso_41 rfl ?_
  obtain ⟨k, h⟩ := chk_s h
  obtain ⟨σ6, e1, h⟩ := wlet_s h
  refine x_rast (pc := 43) C k dX1_addProviso_43 (x_eq e1 ?_)
  refine x_aload_n (pc := 44) C dX1_addProviso_44 rfl rfl ?_
  refine x_dup (pc := 45) C dX1_addProviso_45 rfl ?_
  obtain ⟨k, h⟩ := chk_s h
  refine x_getI (pc := 46) C fX1_27 rfl k dX1_addProviso_46 ?_
  refine x_iconst (v := 1) (pc := 49) C dX1_addProviso_49 (by decide) ?_
  refine x_iadd (pc := 50) C dX1_addProviso_50 ?_
  obtain ⟨k, h⟩ := chk_s h
  obtain ⟨σ7, e1, h⟩ := wlet_s h
  refine x_putI (pc := 51) C pX1_27 rfl k dX1_addProviso_51 (x_eq e1 ?_)
  cases h
  exact x_vret C hr dX1_addProviso_54
def DX1_addBase (l0 : Nat) (l1 : Int32) (l2 : Int32) (l3 : Int32) (l4 : Int32) (σ : Sg) : Option (Unit × Sg) :=
  chk (ckO σ 0 l0) <|
  chk (ckV (gR σ l0 17)) <|
  chk (ckO σ 0 l0) <|
  chk (ckG σ (gR σ l0 17) (gI σ l0 6)) <|
  chk (ckR σ (gR σ l0 17) ((gI σ l0 6).toNatClampNeg) (0 : Int32)) <|
  wlet (wG σ (gR σ l0 17) ((gI σ l0 6).toNatClampNeg) (0 : Int32).toNatClampNeg l1) fun σ1 =>
  chk (ckR σ1 (gR σ l0 17) ((gI σ l0 6).toNatClampNeg) (1 : Int32)) <|
  wlet (wG σ1 (gR σ l0 17) ((gI σ l0 6).toNatClampNeg) (1 : Int32).toNatClampNeg l2) fun σ2 =>
  chk (ckR σ2 (gR σ l0 17) ((gI σ l0 6).toNatClampNeg) (2 : Int32)) <|
  wlet (wG σ2 (gR σ l0 17) ((gI σ l0 6).toNatClampNeg) (2 : Int32).toNatClampNeg l3) fun σ3 =>
  chk (ckR σ3 (gR σ l0 17) ((gI σ l0 6).toNatClampNeg) (3 : Int32)) <|
  wlet (wG σ3 (gR σ l0 17) ((gI σ l0 6).toNatClampNeg) (3 : Int32).toNatClampNeg l4) fun σ4 =>
  chk (ckO σ4 0 l0) <|
  chk (ckO σ4 0 l0) <|
  wlet (pI σ4 l0 6 ((gI σ4 l0 6) + (1 : Int32))) fun σ5 =>
  some ((), σ5)
theorem mX1_addBase (E : Ev) (l : Launch) {l0 : Nat} {l1 : Int32} {l2 : Int32} {l3 : Int32} {l4 : Int32} {σ : Sg} {r : Unit} {σ' : Sg} (h : DX1_addBase l0 l1 l2 l3 l4 σ = some (r, σ')) : Mt E l yX1_addBase cX1_addBase 6 none 1 0 0 [.ref (ad E l0), .int l1, .int l2, .int l3, .int l4] σ none σ' := by
  refine Mt.ofX (by decide) (Nat.le_of_ble_eq_true rfl) (L0 := [some (.ref (ad E l0)), some (.int l1), some (.int l2), some (.int l3), some (.int l4), none]) (xEntN_ok [.ref (ad E l0), .int l1, .int l2, .int l3, .int l4] 6) (fun p e s m args below meth c C hr hn => ?_)
  unfold DX1_addBase at h
  refine x_aload_n (pc := 0) C dX1_addBase_0 rfl rfl ?_
  obtain ⟨k, h⟩ := chk_s h
  have k2 := k
  obtain ⟨k, h⟩ := chk_s h
  refine x_getR (pc := 1) C fX1_67 rfl k2 k dX1_addBase_1 ?_
  refine x_aload_n (pc := 4) C dX1_addBase_4 rfl rfl ?_
  obtain ⟨k, h⟩ := chk_s h
  refine x_getI (pc := 5) C fX1_30 rfl k dX1_addBase_5 ?_
  obtain ⟨k, h⟩ := chk_s h
  refine x_gald (pc := 8) C k dX1_addBase_8 ?_
  refine x_astore (M := [some _, some _, some _, some _, some _, some _]) (pc := 9) C dX1_addBase_9 (by decide) rfl ?_
  refine x_aload (pc := 11) C dX1_addBase_11 rfl ?_
  refine x_iconst (v := 0) (pc := 13) C dX1_addBase_13 (by decide) ?_
  refine x_iload_n (pc := 14) C dX1_addBase_14 rfl rfl ?_
  obtain ⟨k, h⟩ := chk_s h
  obtain ⟨σ1, e1, h⟩ := wlet_s h
  refine x_rast (pc := 15) C k dX1_addBase_15 (x_eq e1 ?_)
  refine x_aload (pc := 16) C dX1_addBase_16 rfl ?_
  refine x_iconst (v := 1) (pc := 18) C dX1_addBase_18 (by decide) ?_
  refine x_iload_n (pc := 19) C dX1_addBase_19 rfl rfl ?_
  obtain ⟨k, h⟩ := chk_s h
  obtain ⟨σ2, e1, h⟩ := wlet_s h
  refine x_rast (pc := 20) C k dX1_addBase_20 (x_eq e1 ?_)
  refine x_aload (pc := 21) C dX1_addBase_21 rfl ?_
  refine x_iconst (v := 2) (pc := 23) C dX1_addBase_23 (by decide) ?_
  refine x_iload_n (pc := 24) C dX1_addBase_24 rfl rfl ?_
  obtain ⟨k, h⟩ := chk_s h
  obtain ⟨σ3, e1, h⟩ := wlet_s h
  refine x_rast (pc := 25) C k dX1_addBase_25 (x_eq e1 ?_)
  refine x_aload (pc := 26) C dX1_addBase_26 rfl ?_
  refine x_iconst (v := 3) (pc := 28) C dX1_addBase_28 (by decide) ?_
  refine x_iload (pc := 29) C dX1_addBase_29 rfl ?_
  obtain ⟨k, h⟩ := chk_s h
  obtain ⟨σ4, e1, h⟩ := wlet_s h
  refine x_rast (pc := 31) C k dX1_addBase_31 (x_eq e1 ?_)
  refine x_aload_n (pc := 32) C dX1_addBase_32 rfl rfl ?_
  refine x_dup (pc := 33) C dX1_addBase_33 rfl ?_
  obtain ⟨k, h⟩ := chk_s h
  refine x_getI (pc := 34) C fX1_30 rfl k dX1_addBase_34 ?_
  refine x_iconst (v := 1) (pc := 37) C dX1_addBase_37 (by decide) ?_
  refine x_iadd (pc := 38) C dX1_addBase_38 ?_
  obtain ⟨k, h⟩ := chk_s h
  obtain ⟨σ5, e1, h⟩ := wlet_s h
  refine x_putI (pc := 39) C pX1_30 rfl k dX1_addBase_39 (x_eq e1 ?_)
  cases h
  exact x_vret C hr dX1_addBase_42
def DX1_beginTicket (l0 : Nat) (l1 : Int32) (l2 : Int32) (l3 : Int32) (σ : Sg) : Option (Unit × Sg) :=
  chk (ckO σ 0 l0) <|
  chk (ckV (gR σ l0 18)) <|
  chk (ckO σ 0 l0) <|
  chk (ckG σ (gR σ l0 18) (gI σ l0 9)) <|
  chk (ckR σ (gR σ l0 18) ((gI σ l0 9).toNatClampNeg) (0 : Int32)) <|
  wlet (wG σ (gR σ l0 18) ((gI σ l0 9).toNatClampNeg) (0 : Int32).toNatClampNeg l1) fun σ1 =>
  chk (ckO σ1 0 l0) <|
  chk (ckV (gR σ1 l0 18)) <|
  chk (ckO σ1 0 l0) <|
  chk (ckG σ1 (gR σ1 l0 18) (gI σ1 l0 9)) <|
  chk (ckR σ1 (gR σ1 l0 18) ((gI σ1 l0 9).toNatClampNeg) (1 : Int32)) <|
  wlet (wG σ1 (gR σ1 l0 18) ((gI σ1 l0 9).toNatClampNeg) (1 : Int32).toNatClampNeg l2) fun σ2 =>
  chk (ckO σ2 0 l0) <|
  chk (ckV (gR σ2 l0 18)) <|
  chk (ckO σ2 0 l0) <|
  chk (ckG σ2 (gR σ2 l0 18) (gI σ2 l0 9)) <|
  chk (ckR σ2 (gR σ2 l0 18) ((gI σ2 l0 9).toNatClampNeg) (2 : Int32)) <|
  wlet (wG σ2 (gR σ2 l0 18) ((gI σ2 l0 9).toNatClampNeg) (2 : Int32).toNatClampNeg (0 : Int32)) fun σ3 =>
  chk (ckO σ3 0 l0) <|
  chk (ckV (gR σ3 l0 19)) <|
  chk (ckO σ3 0 l0) <|
  chk (ckG σ3 (gR σ3 l0 19) (gI σ3 l0 9)) <|
  chk (ckR σ3 (gR σ3 l0 19) ((gI σ3 l0 9).toNatClampNeg) (0 : Int32)) <|
  wlet (wG σ3 (gR σ3 l0 19) ((gI σ3 l0 9).toNatClampNeg) (0 : Int32).toNatClampNeg l3) fun σ4 =>
  some ((), σ4)
theorem mX1_beginTicket (E : Ev) (l : Launch) {l0 : Nat} {l1 : Int32} {l2 : Int32} {l3 : Int32} {σ : Sg} {r : Unit} {σ' : Sg} (h : DX1_beginTicket l0 l1 l2 l3 σ = some (r, σ')) : Mt E l yX1_beginTicket cX1_beginTicket 4 none 1 0 0 [.ref (ad E l0), .int l1, .int l2, .int l3] σ none σ' := by
  refine Mt.ofX (by decide) (Nat.le_of_ble_eq_true rfl) (L0 := [some (.ref (ad E l0)), some (.int l1), some (.int l2), some (.int l3)]) (xEntN_ok [.ref (ad E l0), .int l1, .int l2, .int l3] 4) (fun p e s m args below meth c C hr hn => ?_)
  unfold DX1_beginTicket at h
  refine x_aload_n (pc := 0) C dX1_beginTicket_0 rfl rfl ?_
  obtain ⟨k, h⟩ := chk_s h
  have k2 := k
  obtain ⟨k, h⟩ := chk_s h
  refine x_getR (pc := 1) C fX1_70 rfl k2 k dX1_beginTicket_1 ?_
  refine x_aload_n (pc := 4) C dX1_beginTicket_4 rfl rfl ?_
  obtain ⟨k, h⟩ := chk_s h
  refine x_getI (pc := 5) C fX1_40 rfl k dX1_beginTicket_5 ?_
  obtain ⟨k, h⟩ := chk_s h
  refine x_gald (pc := 8) C k dX1_beginTicket_8 ?_
  refine x_iconst (v := 0) (pc := 9) C dX1_beginTicket_9 (by decide) ?_
  refine x_iload_n (pc := 10) C dX1_beginTicket_10 rfl rfl ?_
  obtain ⟨k, h⟩ := chk_s h
  obtain ⟨σ1, e1, h⟩ := wlet_s h
  refine x_rast (pc := 11) C k dX1_beginTicket_11 (x_eq e1 ?_)
  refine x_aload_n (pc := 12) C dX1_beginTicket_12 rfl rfl ?_
  obtain ⟨k, h⟩ := chk_s h
  have k2 := k
  obtain ⟨k, h⟩ := chk_s h
  refine x_getR (pc := 13) C fX1_70 rfl k2 k dX1_beginTicket_13 ?_
  refine x_aload_n (pc := 16) C dX1_beginTicket_16 rfl rfl ?_
  obtain ⟨k, h⟩ := chk_s h
  refine x_getI (pc := 17) C fX1_40 rfl k dX1_beginTicket_17 ?_
  obtain ⟨k, h⟩ := chk_s h
  refine x_gald (pc := 20) C k dX1_beginTicket_20 ?_
  refine x_iconst (v := 1) (pc := 21) C dX1_beginTicket_21 (by decide) ?_
  refine x_iload_n (pc := 22) C dX1_beginTicket_22 rfl rfl ?_
  obtain ⟨k, h⟩ := chk_s h
  obtain ⟨σ2, e1, h⟩ := wlet_s h
  refine x_rast (pc := 23) C k dX1_beginTicket_23 (x_eq e1 ?_)
  refine x_aload_n (pc := 24) C dX1_beginTicket_24 rfl rfl ?_
  obtain ⟨k, h⟩ := chk_s h
  have k2 := k
  obtain ⟨k, h⟩ := chk_s h
  refine x_getR (pc := 25) C fX1_70 rfl k2 k dX1_beginTicket_25 ?_
  refine x_aload_n (pc := 28) C dX1_beginTicket_28 rfl rfl ?_
  obtain ⟨k, h⟩ := chk_s h
  refine x_getI (pc := 29) C fX1_40 rfl k dX1_beginTicket_29 ?_
  obtain ⟨k, h⟩ := chk_s h
  refine x_gald (pc := 32) C k dX1_beginTicket_32 ?_
  refine x_iconst (v := 2) (pc := 33) C dX1_beginTicket_33 (by decide) ?_
  refine x_iconst (v := 0) (pc := 34) C dX1_beginTicket_34 (by decide) ?_
  obtain ⟨k, h⟩ := chk_s h
  obtain ⟨σ3, e1, h⟩ := wlet_s h
  refine x_rast (pc := 35) C k dX1_beginTicket_35 (x_eq e1 ?_)
  refine x_aload_n (pc := 36) C dX1_beginTicket_36 rfl rfl ?_
  obtain ⟨k, h⟩ := chk_s h
  have k2 := k
  obtain ⟨k, h⟩ := chk_s h
  refine x_getR (pc := 37) C fX1_73 rfl k2 k dX1_beginTicket_37 ?_
  refine x_aload_n (pc := 40) C dX1_beginTicket_40 rfl rfl ?_
  obtain ⟨k, h⟩ := chk_s h
  refine x_getI (pc := 41) C fX1_40 rfl k dX1_beginTicket_41 ?_
  obtain ⟨k, h⟩ := chk_s h
  refine x_gald (pc := 44) C k dX1_beginTicket_44 ?_
  refine x_iconst (v := 0) (pc := 45) C dX1_beginTicket_45 (by decide) ?_
  refine x_iload_n (pc := 46) C dX1_beginTicket_46 rfl rfl ?_
  obtain ⟨k, h⟩ := chk_s h
  obtain ⟨σ4, e1, h⟩ := wlet_s h
  refine x_rast (pc := 47) C k dX1_beginTicket_47 (x_eq e1 ?_)
  cases h
  exact x_vret C hr dX1_beginTicket_48
def DX1_addCoupon (l0 : Nat) (l1 : Int32) (l2 : Int32) (l3 : Int32) (σ : Sg) : Option (Unit × Sg) :=
  chk (ckO σ 0 l0) <|
  chk (ckV (gR σ l0 18)) <|
  chk (ckO σ 0 l0) <|
  chk (ckG σ (gR σ l0 18) (gI σ l0 9)) <|
  chk (ckR σ (gR σ l0 18) ((gI σ l0 9).toNatClampNeg) (2 : Int32)) <|
  wlet (wG σ (gR σ l0 18) ((gI σ l0 9).toNatClampNeg) (2 : Int32).toNatClampNeg (l1 + (1 : Int32))) fun σ1 =>
  chk (ckO σ1 0 l0) <|
  chk (ckV (gR σ1 l0 18)) <|
  chk (ckO σ1 0 l0) <|
  chk (ckG σ1 (gR σ1 l0 18) (gI σ1 l0 9)) <|
  chk (ckR σ1 (gR σ1 l0 18) ((gI σ1 l0 9).toNatClampNeg) ((3 : Int32) + l1)) <|
  wlet (wG σ1 (gR σ1 l0 18) ((gI σ1 l0 9).toNatClampNeg) ((3 : Int32) + l1).toNatClampNeg l2) fun σ2 =>
  chk (ckO σ2 0 l0) <|
  chk (ckV (gR σ2 l0 19)) <|
  chk (ckO σ2 0 l0) <|
  chk (ckG σ2 (gR σ2 l0 19) (gI σ2 l0 9)) <|
  chk (ckR σ2 (gR σ2 l0 19) ((gI σ2 l0 9).toNatClampNeg) (l1 + (1 : Int32))) <|
  wlet (wG σ2 (gR σ2 l0 19) ((gI σ2 l0 9).toNatClampNeg) (l1 + (1 : Int32)).toNatClampNeg l3) fun σ3 =>
  some ((), σ3)
theorem mX1_addCoupon (E : Ev) (l : Launch) {l0 : Nat} {l1 : Int32} {l2 : Int32} {l3 : Int32} {σ : Sg} {r : Unit} {σ' : Sg} (h : DX1_addCoupon l0 l1 l2 l3 σ = some (r, σ')) : Mt E l yX1_addCoupon cX1_addCoupon 4 none 1 0 0 [.ref (ad E l0), .int l1, .int l2, .int l3] σ none σ' := by
  refine Mt.ofX (by decide) (Nat.le_of_ble_eq_true rfl) (L0 := [some (.ref (ad E l0)), some (.int l1), some (.int l2), some (.int l3)]) (xEntN_ok [.ref (ad E l0), .int l1, .int l2, .int l3] 4) (fun p e s m args below meth c C hr hn => ?_)
  unfold DX1_addCoupon at h
  refine x_aload_n (pc := 0) C dX1_addCoupon_0 rfl rfl ?_
  obtain ⟨k, h⟩ := chk_s h
  have k2 := k
  obtain ⟨k, h⟩ := chk_s h
  refine x_getR (pc := 1) C fX1_70 rfl k2 k dX1_addCoupon_1 ?_
  refine x_aload_n (pc := 4) C dX1_addCoupon_4 rfl rfl ?_
  obtain ⟨k, h⟩ := chk_s h
  refine x_getI (pc := 5) C fX1_40 rfl k dX1_addCoupon_5 ?_
  obtain ⟨k, h⟩ := chk_s h
  refine x_gald (pc := 8) C k dX1_addCoupon_8 ?_
  refine x_iconst (v := 2) (pc := 9) C dX1_addCoupon_9 (by decide) ?_
  refine x_iload_n (pc := 10) C dX1_addCoupon_10 rfl rfl ?_
  refine x_iconst (v := 1) (pc := 11) C dX1_addCoupon_11 (by decide) ?_
  refine x_iadd (pc := 12) C dX1_addCoupon_12 ?_
  obtain ⟨k, h⟩ := chk_s h
  obtain ⟨σ1, e1, h⟩ := wlet_s h
  refine x_rast (pc := 13) C k dX1_addCoupon_13 (x_eq e1 ?_)
  refine x_aload_n (pc := 14) C dX1_addCoupon_14 rfl rfl ?_
  obtain ⟨k, h⟩ := chk_s h
  have k2 := k
  obtain ⟨k, h⟩ := chk_s h
  refine x_getR (pc := 15) C fX1_70 rfl k2 k dX1_addCoupon_15 ?_
  refine x_aload_n (pc := 18) C dX1_addCoupon_18 rfl rfl ?_
  obtain ⟨k, h⟩ := chk_s h
  refine x_getI (pc := 19) C fX1_40 rfl k dX1_addCoupon_19 ?_
  obtain ⟨k, h⟩ := chk_s h
  refine x_gald (pc := 22) C k dX1_addCoupon_22 ?_
  refine x_iconst (v := 3) (pc := 23) C dX1_addCoupon_23 (by decide) ?_
  refine x_iload_n (pc := 24) C dX1_addCoupon_24 rfl rfl ?_
  refine x_iadd (pc := 25) C dX1_addCoupon_25 ?_
  refine x_iload_n (pc := 26) C dX1_addCoupon_26 rfl rfl ?_
  obtain ⟨k, h⟩ := chk_s h
  obtain ⟨σ2, e1, h⟩ := wlet_s h
  refine x_rast (pc := 27) C k dX1_addCoupon_27 (x_eq e1 ?_)
  refine x_aload_n (pc := 28) C dX1_addCoupon_28 rfl rfl ?_
  obtain ⟨k, h⟩ := chk_s h
  have k2 := k
  obtain ⟨k, h⟩ := chk_s h
  refine x_getR (pc := 29) C fX1_73 rfl k2 k dX1_addCoupon_29 ?_
  refine x_aload_n (pc := 32) C dX1_addCoupon_32 rfl rfl ?_
  obtain ⟨k, h⟩ := chk_s h
  refine x_getI (pc := 33) C fX1_40 rfl k dX1_addCoupon_33 ?_
  obtain ⟨k, h⟩ := chk_s h
  refine x_gald (pc := 36) C k dX1_addCoupon_36 ?_
  refine x_iload_n (pc := 37) C dX1_addCoupon_37 rfl rfl ?_
  refine x_iconst (v := 1) (pc := 38) C dX1_addCoupon_38 (by decide) ?_
  refine x_iadd (pc := 39) C dX1_addCoupon_39 ?_
  refine x_iload_n (pc := 40) C dX1_addCoupon_40 rfl rfl ?_
  obtain ⟨k, h⟩ := chk_s h
  obtain ⟨σ3, e1, h⟩ := wlet_s h
  refine x_rast (pc := 41) C k dX1_addCoupon_41 (x_eq e1 ?_)
  cases h
  exact x_vret C hr dX1_addCoupon_42
def DX1_endTicket (l0 : Nat) (l1 : Int64) (σ : Sg) : Option (Unit × Sg) :=
  chk (ckO σ 0 l0) <|
  chk (ckV (gR σ l0 12)) <|
  chk (ckO σ 0 l0) <|
  chk (ckJ σ (gR σ l0 12) (gI σ l0 9)) <|
  wlet (wJ σ (gR σ l0 12) (gI σ l0 9).toNatClampNeg l1) fun σ1 =>
  chk (ckO σ1 0 l0) <|
  chk (ckO σ1 0 l0) <|
  wlet (pI σ1 l0 9 ((gI σ1 l0 9) + (1 : Int32))) fun σ2 =>
  some ((), σ2)
theorem mX1_endTicket (E : Ev) (l : Launch) {l0 : Nat} {l1 : Int64} {σ : Sg} {r : Unit} {σ' : Sg} (h : DX1_endTicket l0 l1 σ = some (r, σ')) : Mt E l yX1_endTicket cX1_endTicket 3 none 1 0 0 [.ref (ad E l0), .long l1] σ none σ' := by
  refine Mt.ofX (by decide) (Nat.le_of_ble_eq_true rfl) (L0 := [some (.ref (ad E l0)), some (.long l1), none]) (xEntN_ok [.ref (ad E l0), .long l1] 3) (fun p e s m args below meth c C hr hn => ?_)
  unfold DX1_endTicket at h
  refine x_aload_n (pc := 0) C dX1_endTicket_0 rfl rfl ?_
  obtain ⟨k, h⟩ := chk_s h
  have k2 := k
  obtain ⟨k, h⟩ := chk_s h
  refine x_getR (pc := 1) C fX1_50 rfl k2 k dX1_endTicket_1 ?_
  refine x_aload_n (pc := 4) C dX1_endTicket_4 rfl rfl ?_
  obtain ⟨k, h⟩ := chk_s h
  refine x_getI (pc := 5) C fX1_40 rfl k dX1_endTicket_5 ?_
  refine x_lload_n (pc := 8) C dX1_endTicket_8 rfl rfl ?_
  obtain ⟨k, h⟩ := chk_s h
  obtain ⟨σ1, e1, h⟩ := wlet_s h
  refine x_last (pc := 9) C k dX1_endTicket_9 (x_eq e1 ?_)
  refine x_aload_n (pc := 10) C dX1_endTicket_10 rfl rfl ?_
  refine x_dup (pc := 11) C dX1_endTicket_11 rfl ?_
  obtain ⟨k, h⟩ := chk_s h
  refine x_getI (pc := 12) C fX1_40 rfl k dX1_endTicket_12 ?_
  refine x_iconst (v := 1) (pc := 15) C dX1_endTicket_15 (by decide) ?_
  refine x_iadd (pc := 16) C dX1_endTicket_16 ?_
  obtain ⟨k, h⟩ := chk_s h
  obtain ⟨σ2, e1, h⟩ := wlet_s h
  refine x_putI (pc := 17) C pX1_40 rfl k dX1_endTicket_17 (x_eq e1 ?_)
  cases h
  exact x_vret C hr dX1_endTicket_20
def DX1_hasWay_18 (s0 : Int32) (σ : Sg) : Option (Int32 × Sg) :=
  chk (ck01 s0) <|
  some (s0, σ)
theorem tX1_hasWay_18 {r : Int32} {σ' : Sg} (C : Cx E p s m args meth c RX1 cX1_hasWay 3) (hr : meth.sig.returnType = (some .boolean)) {s0 : Int32} {σ : Sg} (h : DX1_hasWay_18 s0 σ = some (r, σ')) : Y E p l e (rmA 1 0 0) s m args below meth c (some (.int r)) σ' 0 0 3 0 0 σ 18 [none, none, none] [.int s0] := by
  unfold DX1_hasWay_18 at h
  obtain ⟨kz, h⟩ := chk_s h
  cases h
  exact x_zret C hr (nar_01 kz) dX1_hasWay_18
def DX1_hasWay (l0 : Nat) (l1 : Int32) (l2 : Int32) (σ : Sg) : Option (Int32 × Sg) :=
  chk (ckO σ 0 l0) <|
  chk (ckV (gR σ l0 14)) <|
  chk (ckG σ (gR σ l0 14) l1) <|
  chk (ckR σ (gR σ l0 14) l1.toNatClampNeg l2) <|
  if (1000000 : Int32) ≤ (aG σ (gR σ l0 14) l1.toNatClampNeg l2.toNatClampNeg) then
    DX1_hasWay_18 (0 : Int32) σ
  else
    DX1_hasWay_18 (1 : Int32) σ
theorem mX1_hasWay (E : Ev) (l : Launch) {l0 : Nat} {l1 : Int32} {l2 : Int32} {σ : Sg} {r : Int32} {σ' : Sg} (h : DX1_hasWay l0 l1 l2 σ = some (r, σ')) : Mt E l yX1_hasWay cX1_hasWay 3 (some .boolean) 1 0 0 [.ref (ad E l0), .int l1, .int l2] σ (some (.int r)) σ' := by
  refine Mt.ofX (by decide) (Nat.le_of_ble_eq_true rfl) (L0 := [some (.ref (ad E l0)), some (.int l1), some (.int l2)]) (xEntN_ok [.ref (ad E l0), .int l1, .int l2] 3) (fun p e s m args below meth c C hr hn => ?_)
  unfold DX1_hasWay at h
  refine x_aload_n (pc := 0) C dX1_hasWay_0 rfl rfl ?_
  obtain ⟨k, h⟩ := chk_s h
  have k2 := k
  obtain ⟨k, h⟩ := chk_s h
  refine x_getR (pc := 1) C fX1_58 rfl k2 k dX1_hasWay_1 ?_
  refine x_iload_n (pc := 4) C dX1_hasWay_4 rfl rfl ?_
  obtain ⟨k, h⟩ := chk_s h
  refine x_gald (pc := 5) C k dX1_hasWay_5 ?_
  refine x_iload_n (pc := 6) C dX1_hasWay_6 rfl rfl ?_
  obtain ⟨k, h⟩ := chk_s h
  refine x_rald (pc := 7) C k dX1_hasWay_7 ?_
  refine x_ldc (pc := 8) C kX1_76 dX1_hasWay_8 ?_
  refine x_icmp_ge (pc := 10) (tgt := 17) C dX1_hasWay_10 (by decide) (fun q => ?_) (fun q => ?_)
  · rw [if_pos q] at h
    refine x_iconst (v := 0) (pc := 17) C dX1_hasWay_17 (by decide) ?_
    exact x_sub (tX1_hasWay_18 C hr h) (xLe_n (xLe_n (xLe_n xLe_0)))
  · rw [if_neg q] at h
    refine x_iconst (v := 1) (pc := 13) C dX1_hasWay_13 (by decide) ?_
    refine x_goto (tgt := 18) (pc := 14) C dX1_hasWay_14 (by decide) ?_
    exact x_sub (tX1_hasWay_18 C hr h) (xLe_n (xLe_n (xLe_n xLe_0)))
def DX1_weightOf_22 (l0 : Nat) (l2 : Int32) (σ : Sg) : Option (Int32 × Sg) :=
  chk (ckO σ 0 l0) <|
  chk (ckV (gR σ l0 15)) <|
  chk (ckG σ (gR σ l0 15) l2) <|
  chk (ckR σ (gR σ l0 15) l2.toNatClampNeg (1 : Int32)) <|
  some ((aG σ (gR σ l0 15) l2.toNatClampNeg (1 : Int32).toNatClampNeg), σ)
theorem tX1_weightOf_22 {r : Int32} {σ' : Sg} (C : Cx E p s m args meth c RX1 cX1_weightOf 3) (hr : meth.sig.returnType = (some .int)) {l0 : Nat} {l2 : Int32} {σ : Sg} (h : DX1_weightOf_22 l0 l2 σ = some (r, σ')) : Y E p l e (rmA 1 0 0) s m args below meth c (some (.int r)) σ' 0 0 3 0 0 σ 22 [some (.ref (ad E l0)), none, some (.int l2)] [] := by
  unfold DX1_weightOf_22 at h
  refine x_aload_n (pc := 22) C dX1_weightOf_22 rfl rfl ?_
  obtain ⟨k, h⟩ := chk_s h
  have k2 := k
  obtain ⟨k, h⟩ := chk_s h
  refine x_getR (pc := 23) C fX1_61 rfl k2 k dX1_weightOf_23 ?_
  refine x_iload_n (pc := 26) C dX1_weightOf_26 rfl rfl ?_
  obtain ⟨k, h⟩ := chk_s h
  refine x_gald (pc := 27) C k dX1_weightOf_27 ?_
  refine x_iconst (v := 1) (pc := 28) C dX1_weightOf_28 (by decide) ?_
  obtain ⟨k, h⟩ := chk_s h
  refine x_rald (pc := 29) C k dX1_weightOf_29 ?_
  cases h
  exact x_iret C hr dX1_weightOf_30
def DX1_weightOf_37 (σ : Sg) : Option (Int32 × Sg) :=
  some ((100 : Int32), σ)
theorem tX1_weightOf_37 {r : Int32} {σ' : Sg} (C : Cx E p s m args meth c RX1 cX1_weightOf 3) (hr : meth.sig.returnType = (some .int)) {σ : Sg} (h : DX1_weightOf_37  σ = some (r, σ')) : Y E p l e (rmA 1 0 0) s m args below meth c (some (.int r)) σ' 0 0 3 0 0 σ 37 [none, none, none] [] := by
  unfold DX1_weightOf_37 at h
  refine x_bipush (v := 100) (pc := 37) C dX1_weightOf_37 (by decide) ?_
  cases h
  exact x_iret C hr dX1_weightOf_39
def DX1_weightOf_2 : Nat → Nat → Int32 → Int32 → Sg → Option (Int32 × Sg)
  | 0, _, _, _, _ => none
  | n + 1, l0, l1, l2, σ =>
    chk (ckO σ 0 l0) <|
    if (gI σ l0 4) ≤ l2 then
      DX1_weightOf_37 σ
    else
      chk (ckO σ 0 l0) <|
      chk (ckV (gR σ l0 15)) <|
      chk (ckG σ (gR σ l0 15) l2) <|
      chk (ckR σ (gR σ l0 15) l2.toNatClampNeg (0 : Int32)) <|
      if (aG σ (gR σ l0 15) l2.toNatClampNeg (0 : Int32).toNatClampNeg) < l1 then
        DX1_weightOf_2 n l0 l1 (l2 + (1 : Int32)) σ
      else
        DX1_weightOf_22 l0 l2 σ
theorem tX1_weightOf_2 {r : Int32} {σ' : Sg} (C : Cx E p s m args meth c RX1 cX1_weightOf 3) (hr : meth.sig.returnType = (some .int)) : ∀ (n : Nat) (l0 : Nat) (l1 : Int32) (l2 : Int32) (σ : Sg) (h : DX1_weightOf_2 n l0 l1 l2 σ = some (r, σ')), Y E p l e (rmA 1 0 0) s m args below meth c (some (.int r)) σ' 0 0 3 0 0 σ 2 [some (.ref (ad E l0)), some (.int l1), some (.int l2)] [] := by
  intro n
  induction n with
  | zero => intro l0 l1 l2 σ h; cases h
  | succ n ih =>
    intro l0 l1 l2 σ h
    unfold DX1_weightOf_2 at h
    refine x_iload_n (pc := 2) C dX1_weightOf_2 rfl rfl ?_
    refine x_aload_n (pc := 3) C dX1_weightOf_3 rfl rfl ?_
    obtain ⟨k, h⟩ := chk_s h
    refine x_getI (pc := 4) C fX1_24 rfl k dX1_weightOf_4 ?_
    refine x_icmp_ge (pc := 7) (tgt := 37) C dX1_weightOf_7 (by decide) (fun q => ?_) (fun q => ?_)
    · rw [if_pos q] at h
      exact x_sub (tX1_weightOf_37 C hr h) (xLe_n (xLe_n (xLe_n xLe_0)))
    · rw [if_neg q] at h
      refine x_iload_n (pc := 10) C dX1_weightOf_10 rfl rfl ?_
      refine x_aload_n (pc := 11) C dX1_weightOf_11 rfl rfl ?_
      obtain ⟨k, h⟩ := chk_s h
      have k2 := k
      obtain ⟨k, h⟩ := chk_s h
      refine x_getR (pc := 12) C fX1_61 rfl k2 k dX1_weightOf_12 ?_
      refine x_iload_n (pc := 15) C dX1_weightOf_15 rfl rfl ?_
      obtain ⟨k, h⟩ := chk_s h
      refine x_gald (pc := 16) C k dX1_weightOf_16 ?_
      refine x_iconst (v := 0) (pc := 17) C dX1_weightOf_17 (by decide) ?_
      obtain ⟨k, h⟩ := chk_s h
      refine x_rald (pc := 18) C k dX1_weightOf_18 ?_
      refine x_icmp_gt (pc := 19) (tgt := 31) C dX1_weightOf_19 (by decide) (fun q => ?_) (fun q => ?_)
      · rw [if_pos q] at h
        refine x_iinc (v := 1) (M := [some _, some _, some _]) (pc := 31) C dX1_weightOf_31 rfl (by decide) (by decide) rfl ?_
        refine x_goto (tgt := 2) (pc := 34) C dX1_weightOf_34 (by decide) ?_
        exact x_sub (ih _ _ _ _ h) (xLe_s (xLe_s (xLe_s xLe_0)))
      · rw [if_neg q] at h
        exact x_sub (tX1_weightOf_22 C hr h) (xLe_s (xLe_n (xLe_s xLe_0)))
def DX1_weightOf (l0 : Nat) (l1 : Int32) (σ : Sg) : Option (Int32 × Sg) :=
  DX1_weightOf_2 FU l0 l1 (0 : Int32) σ
theorem mX1_weightOf (E : Ev) (l : Launch) {l0 : Nat} {l1 : Int32} {σ : Sg} {r : Int32} {σ' : Sg} (h : DX1_weightOf l0 l1 σ = some (r, σ')) : Mt E l yX1_weightOf cX1_weightOf 3 (some .int) 1 0 0 [.ref (ad E l0), .int l1] σ (some (.int r)) σ' := by
  refine Mt.ofX (by decide) (Nat.le_of_ble_eq_true rfl) (L0 := [some (.ref (ad E l0)), some (.int l1), none]) (xEntN_ok [.ref (ad E l0), .int l1] 3) (fun p e s m args below meth c C hr hn => ?_)
  unfold DX1_weightOf at h
  refine x_iconst (v := 0) (pc := 0) C dX1_weightOf_0 (by decide) ?_
  refine x_istore_n (M := [some _, some _, some _]) (pc := 1) C dX1_weightOf_1 rfl (by decide) rfl ?_
  exact x_sub (tX1_weightOf_2 C hr FU _ _ _ _ h) (xLe_s (xLe_s (xLe_s xLe_0)))
def DX1_isPair_25 (s0 : Int32) (σ : Sg) : Option (Int32 × Sg) :=
  chk (ck01 s0) <|
  some (s0, σ)
theorem tX1_isPair_25 {r : Int32} {σ' : Sg} (C : Cx E p s m args meth c RX1 cX1_isPair 4) (hr : meth.sig.returnType = (some .boolean)) {s0 : Int32} {σ : Sg} (h : DX1_isPair_25 s0 σ = some (r, σ')) : Y E p l e (rmA 1 0 0) s m args below meth c (some (.int r)) σ' 0 0 4 0 0 σ 25 [none, none, none, none] [.int s0] := by
  unfold DX1_isPair_25 at h
  obtain ⟨kz, h⟩ := chk_s h
  cases h
  exact x_zret C hr (nar_01 kz) dX1_isPair_25
def DX1_isPair_20 (σ : Sg) : Option (Int32 × Sg) :=
  DX1_isPair_25 (1 : Int32) σ
theorem tX1_isPair_20 {r : Int32} {σ' : Sg} (C : Cx E p s m args meth c RX1 cX1_isPair 4) (hr : meth.sig.returnType = (some .boolean)) {σ : Sg} (h : DX1_isPair_20  σ = some (r, σ')) : Y E p l e (rmA 1 0 0) s m args below meth c (some (.int r)) σ' 0 0 4 0 0 σ 20 [none, none, none, none] [] := by
  unfold DX1_isPair_20 at h
  refine x_iconst (v := 1) (pc := 20) C dX1_isPair_20 (by decide) ?_
  refine x_goto (tgt := 25) (pc := 21) C dX1_isPair_21 (by decide) ?_
  exact x_sub (tX1_isPair_25 C hr h) (xLe_n (xLe_n (xLe_n (xLe_n xLe_0))))
def DX1_isPair_24 (σ : Sg) : Option (Int32 × Sg) :=
  DX1_isPair_25 (0 : Int32) σ
theorem tX1_isPair_24 {r : Int32} {σ' : Sg} (C : Cx E p s m args meth c RX1 cX1_isPair 4) (hr : meth.sig.returnType = (some .boolean)) {σ : Sg} (h : DX1_isPair_24  σ = some (r, σ')) : Y E p l e (rmA 1 0 0) s m args below meth c (some (.int r)) σ' 0 0 4 0 0 σ 24 [none, none, none, none] [] := by
  unfold DX1_isPair_24 at h
  refine x_iconst (v := 0) (pc := 24) C dX1_isPair_24 (by decide) ?_
  exact x_sub (tX1_isPair_25 C hr h) (xLe_n (xLe_n (xLe_n (xLe_n xLe_0))))
def DX1_isPair_10 (l0 : Int32) (l1 : Int32) (l2 : Int32) (l3 : Int32) (σ : Sg) : Option (Int32 × Sg) :=
  if l0 = l3 then
    if l1 = l2 then
      DX1_isPair_20 σ
    else
      DX1_isPair_24 σ
  else
    DX1_isPair_24 σ
theorem tX1_isPair_10 {r : Int32} {σ' : Sg} (C : Cx E p s m args meth c RX1 cX1_isPair 4) (hr : meth.sig.returnType = (some .boolean)) {l0 : Int32} {l1 : Int32} {l2 : Int32} {l3 : Int32} {σ : Sg} (h : DX1_isPair_10 l0 l1 l2 l3 σ = some (r, σ')) : Y E p l e (rmA 1 0 0) s m args below meth c (some (.int r)) σ' 0 0 4 0 0 σ 10 [some (.int l0), some (.int l1), some (.int l2), some (.int l3)] [] := by
  unfold DX1_isPair_10 at h
  refine x_iload_n (pc := 10) C dX1_isPair_10 rfl rfl ?_
  refine x_iload_n (pc := 11) C dX1_isPair_11 rfl rfl ?_
  refine x_icmp_ne (pc := 12) (tgt := 24) C dX1_isPair_12 (by decide) (fun q => ?_) (fun q => ?_)
  · rw [if_pos q] at h
    refine x_iload_n (pc := 15) C dX1_isPair_15 rfl rfl ?_
    refine x_iload_n (pc := 16) C dX1_isPair_16 rfl rfl ?_
    refine x_icmp_ne (pc := 17) (tgt := 24) C dX1_isPair_17 (by decide) (fun q => ?_) (fun q => ?_)
    · rw [if_pos q] at h
      exact x_sub (tX1_isPair_20 C hr h) (xLe_n (xLe_n (xLe_n (xLe_n xLe_0))))
    · rw [if_neg q] at h
      exact x_sub (tX1_isPair_24 C hr h) (xLe_n (xLe_n (xLe_n (xLe_n xLe_0))))
  · rw [if_neg q] at h
    exact x_sub (tX1_isPair_24 C hr h) (xLe_n (xLe_n (xLe_n (xLe_n xLe_0))))
def DX1_isPair (l0 : Int32) (l1 : Int32) (l2 : Int32) (l3 : Int32) (σ : Sg) : Option (Int32 × Sg) :=
  if l0 = l2 then
    if l1 = l3 then
      DX1_isPair_20 σ
    else
      DX1_isPair_10 l0 l1 l2 l3 σ
  else
    DX1_isPair_10 l0 l1 l2 l3 σ
theorem mX1_isPair (E : Ev) (l : Launch) {l0 : Int32} {l1 : Int32} {l2 : Int32} {l3 : Int32} {σ : Sg} {r : Int32} {σ' : Sg} (h : DX1_isPair l0 l1 l2 l3 σ = some (r, σ')) : Mt E l yX1_isPair cX1_isPair 4 (some .boolean) 1 0 0 [.int l0, .int l1, .int l2, .int l3] σ (some (.int r)) σ' := by
  refine Mt.ofX (by decide) (Nat.le_of_ble_eq_true rfl) (L0 := [some (.int l0), some (.int l1), some (.int l2), some (.int l3)]) (xEntN_ok [.int l0, .int l1, .int l2, .int l3] 4) (fun p e s m args below meth c C hr hn => ?_)
  unfold DX1_isPair at h
  refine x_iload_n (pc := 0) C dX1_isPair_0 rfl rfl ?_
  refine x_iload_n (pc := 1) C dX1_isPair_1 rfl rfl ?_
  refine x_icmp_ne (pc := 2) (tgt := 10) C dX1_isPair_2 (by decide) (fun q => ?_) (fun q => ?_)
  · rw [if_pos q] at h
    refine x_iload_n (pc := 5) C dX1_isPair_5 rfl rfl ?_
    refine x_iload_n (pc := 6) C dX1_isPair_6 rfl rfl ?_
    refine x_icmp_eq (pc := 7) (tgt := 20) C dX1_isPair_7 (by decide) (fun q => ?_) (fun q => ?_)
    · rw [if_pos q] at h
      exact x_sub (tX1_isPair_20 C hr h) (xLe_n (xLe_n (xLe_n (xLe_n xLe_0))))
    · rw [if_neg q] at h
      exact x_sub (tX1_isPair_10 C hr h) (xLe_s (xLe_s (xLe_s (xLe_s xLe_0))))
  · rw [if_neg q] at h
    exact x_sub (tX1_isPair_10 C hr h) (xLe_s (xLe_s (xLe_s (xLe_s xLe_0))))
def DX1_baseOf_45 (g5 : Nat) (i5 : Nat) (σ : Sg) : Option (Int32 × Sg) :=
  chk (ckR σ g5 i5 (3 : Int32)) <|
  some ((aG σ g5 i5 (3 : Int32).toNatClampNeg), σ)
theorem tX1_baseOf_45 {r : Int32} {σ' : Sg} (C : Cx E p s m args meth c RX1 cX1_baseOf 6) (hr : meth.sig.returnType = (some .int)) {g5 : Nat} {i5 : Nat} {σ : Sg} (h : DX1_baseOf_45 g5 i5 σ = some (r, σ')) : Y E p l e (rmA 2 0 0) s m args below meth c (some (.int r)) σ' 0 0 6 0 0 σ 45 [none, none, none, none, none, some (.ref (rw1 E g5 i5))] [] := by
  unfold DX1_baseOf_45 at h
  refine x_aload (pc := 45) C dX1_baseOf_45 rfl ?_
  refine x_iconst (v := 3) (pc := 47) C dX1_baseOf_47 (by decide) ?_
  obtain ⟨k, h⟩ := chk_s h
  refine x_rald (pc := 48) C k dX1_baseOf_48 ?_
  cases h
  exact x_iret C hr dX1_baseOf_49
def DX1_baseOf_50 (K3 : Nat → Int32 → Int32 → Int32 → Int32 → Sg → Option (Int32 × Sg)) (l0 : Nat) (l1 : Int32) (l2 : Int32) (l3 : Int32) (l4 : Int32) (σ : Sg) : Option (Int32 × Sg) :=
  K3 l0 l1 l2 l3 (l4 + (1 : Int32)) σ
theorem tX1_baseOf_50 {r : Int32} {σ' : Sg} (C : Cx E p s m args meth c RX1 cX1_baseOf 6) (hr : meth.sig.returnType = (some .int)) {K3 : Nat → Int32 → Int32 → Int32 → Int32 → Sg → Option (Int32 × Sg)} (hK3 : ∀ (l0 : Nat) (l1 : Int32) (l2 : Int32) (l3 : Int32) (l4 : Int32) (σ : Sg), K3 l0 l1 l2 l3 l4 σ = some (r, σ') → Y E p l e (rmA 2 0 0) s m args below meth c (some (.int r)) σ' 0 0 6 0 0 σ 3 [some (.ref (ad E l0)), some (.int l1), some (.int l2), some (.int l3), some (.int l4), none] []) {l0 : Nat} {l1 : Int32} {l2 : Int32} {l3 : Int32} {l4 : Int32} {σ : Sg} (h : DX1_baseOf_50 K3 l0 l1 l2 l3 l4 σ = some (r, σ')) : Y E p l e (rmA 2 0 0) s m args below meth c (some (.int r)) σ' 0 0 6 0 0 σ 50 [some (.ref (ad E l0)), some (.int l1), some (.int l2), some (.int l3), some (.int l4), none] [] := by
  unfold DX1_baseOf_50 at h
  refine x_iinc (v := 1) (M := [some _, some _, some _, some _, some _, none]) (pc := 50) C dX1_baseOf_50 rfl (by decide) (by decide) rfl ?_
  refine x_goto (tgt := 3) (pc := 53) C dX1_baseOf_53 (by decide) ?_
  exact x_sub (hK3 _ _ _ _ _ _ h) (xLe_s (xLe_s (xLe_s (xLe_s (xLe_s (xLe_n xLe_0))))))
def DX1_baseOf_56 (σ : Sg) : Option (Int32 × Sg) :=
  some ((-1 : Int32), σ)
theorem tX1_baseOf_56 {r : Int32} {σ' : Sg} (C : Cx E p s m args meth c RX1 cX1_baseOf 6) (hr : meth.sig.returnType = (some .int)) {σ : Sg} (h : DX1_baseOf_56  σ = some (r, σ')) : Y E p l e (rmA 2 0 0) s m args below meth c (some (.int r)) σ' 0 0 6 0 0 σ 56 [none, none, none, none, none, none] [] := by
  unfold DX1_baseOf_56 at h
  refine x_iconst (v := -1) (pc := 56) C dX1_baseOf_56 (by decide) ?_
  cases h
  exact x_iret C hr dX1_baseOf_57
def DX1_baseOf_3 : Nat → Nat → Int32 → Int32 → Int32 → Int32 → Sg → Option (Int32 × Sg)
  | 0, _, _, _, _, _, _ => none
  | n + 1, l0, l1, l2, l3, l4, σ =>
    chk (ckO σ 0 l0) <|
    if (gI σ l0 6) ≤ l4 then
      DX1_baseOf_56 σ
    else
      chk (ckO σ 0 l0) <|
      chk (ckV (gR σ l0 17)) <|
      chk (ckG σ (gR σ l0 17) l4) <|
      chk (ckR σ (gR σ l0 17) l4.toNatClampNeg (0 : Int32)) <|
      if (aG σ (gR σ l0 17) l4.toNatClampNeg (0 : Int32).toNatClampNeg) = l1 then
        chk (ckR σ (gR σ l0 17) l4.toNatClampNeg (1 : Int32)) <|
        chk (ckR σ (gR σ l0 17) l4.toNatClampNeg (2 : Int32)) <|
        bnd (DX1_isPair (aG σ (gR σ l0 17) l4.toNatClampNeg (1 : Int32).toNatClampNeg) (aG σ (gR σ l0 17) l4.toNatClampNeg (2 : Int32).toNatClampNeg) l2 l3 σ) fun v1 σ2 =>
        if v1 = 0 then
          DX1_baseOf_50 (DX1_baseOf_3 n) l0 l1 l2 l3 l4 σ2
        else
          DX1_baseOf_45 (gR σ l0 17) l4.toNatClampNeg σ2
      else
        DX1_baseOf_50 (DX1_baseOf_3 n) l0 l1 l2 l3 l4 σ
theorem tX1_baseOf_3 {r : Int32} {σ' : Sg} (C : Cx E p s m args meth c RX1 cX1_baseOf 6) (hr : meth.sig.returnType = (some .int)) : ∀ (n : Nat) (l0 : Nat) (l1 : Int32) (l2 : Int32) (l3 : Int32) (l4 : Int32) (σ : Sg) (h : DX1_baseOf_3 n l0 l1 l2 l3 l4 σ = some (r, σ')), Y E p l e (rmA 2 0 0) s m args below meth c (some (.int r)) σ' 0 0 6 0 0 σ 3 [some (.ref (ad E l0)), some (.int l1), some (.int l2), some (.int l3), some (.int l4), none] [] := by
  intro n
  induction n with
  | zero => intro l0 l1 l2 l3 l4 σ h; cases h
  | succ n ih =>
    intro l0 l1 l2 l3 l4 σ h
    unfold DX1_baseOf_3 at h
    refine x_iload (pc := 3) C dX1_baseOf_3 rfl ?_
    refine x_aload_n (pc := 5) C dX1_baseOf_5 rfl rfl ?_
    obtain ⟨k, h⟩ := chk_s h
    refine x_getI (pc := 6) C fX1_30 rfl k dX1_baseOf_6 ?_
    refine x_icmp_ge (pc := 9) (tgt := 56) C dX1_baseOf_9 (by decide) (fun q => ?_) (fun q => ?_)
    · rw [if_pos q] at h
      exact x_sub (tX1_baseOf_56 C hr h) (xLe_n (xLe_n (xLe_n (xLe_n (xLe_n (xLe_n xLe_0))))))
    · rw [if_neg q] at h
      refine x_aload_n (pc := 12) C dX1_baseOf_12 rfl rfl ?_
      obtain ⟨k, h⟩ := chk_s h
      have k2 := k
      obtain ⟨k, h⟩ := chk_s h
      refine x_getR (pc := 13) C fX1_67 rfl k2 k dX1_baseOf_13 ?_
      refine x_iload (pc := 16) C dX1_baseOf_16 rfl ?_
      obtain ⟨k, h⟩ := chk_s h
      refine x_gald (pc := 18) C k dX1_baseOf_18 ?_
      refine x_astore (M := [some _, some _, some _, some _, some _, some _]) (pc := 19) C dX1_baseOf_19 (by decide) rfl ?_
      refine x_aload (pc := 21) C dX1_baseOf_21 rfl ?_
      refine x_iconst (v := 0) (pc := 23) C dX1_baseOf_23 (by decide) ?_
      obtain ⟨k, h⟩ := chk_s h
      refine x_rald (pc := 24) C k dX1_baseOf_24 ?_
      refine x_iload_n (pc := 25) C dX1_baseOf_25 rfl rfl ?_
      refine x_icmp_ne (pc := 26) (tgt := 50) C dX1_baseOf_26 (by decide) (fun q => ?_) (fun q => ?_)
      · rw [if_pos q] at h
        refine x_aload (pc := 29) C dX1_baseOf_29 rfl ?_
        refine x_iconst (v := 1) (pc := 31) C dX1_baseOf_31 (by decide) ?_
        obtain ⟨k, h⟩ := chk_s h
        refine x_rald (pc := 32) C k dX1_baseOf_32 ?_
        refine x_aload (pc := 33) C dX1_baseOf_33 rfl ?_
        refine x_iconst (v := 2) (pc := 35) C dX1_baseOf_35 (by decide) ?_
        obtain ⟨k, h⟩ := chk_s h
        refine x_rald (pc := 36) C k dX1_baseOf_36 ?_
        refine x_iload_n (pc := 37) C dX1_baseOf_37 rfl rfl ?_
        refine x_iload_n (pc := 38) C dX1_baseOf_38 rfl rfl ?_
        obtain ⟨v1, σ2, k, h⟩ := bnd_s h
        refine x_callS1 (pc := 39) C (mX1_isPair E l k) cX1_94 zX1_isPair rfl rfl (Nat.le_of_ble_eq_true rfl) ⟨Nat.le_of_ble_eq_true rfl, Nat.le_of_ble_eq_true rfl, Nat.le_of_ble_eq_true rfl, Nat.le_of_ble_eq_true rfl⟩ dX1_baseOf_39 ?_
        refine x_if_eq (pc := 42) (tgt := 50) C dX1_baseOf_42 (by decide) (fun q => ?_) (fun q => ?_)
        · rw [if_pos q] at h
          exact x_sub (tX1_baseOf_50 C hr ih h) (xLe_s (xLe_s (xLe_s (xLe_s (xLe_s (xLe_n xLe_0))))))
        · rw [if_neg q] at h
          exact x_sub (tX1_baseOf_45 C hr h) (xLe_n (xLe_n (xLe_n (xLe_n (xLe_n (xLe_s xLe_0))))))
      · rw [if_neg q] at h
        exact x_sub (tX1_baseOf_50 C hr ih h) (xLe_s (xLe_s (xLe_s (xLe_s (xLe_s (xLe_n xLe_0))))))
def DX1_baseOf (l0 : Nat) (l1 : Int32) (l2 : Int32) (l3 : Int32) (σ : Sg) : Option (Int32 × Sg) :=
  DX1_baseOf_3 FU l0 l1 l2 l3 (0 : Int32) σ
theorem mX1_baseOf (E : Ev) (l : Launch) {l0 : Nat} {l1 : Int32} {l2 : Int32} {l3 : Int32} {σ : Sg} {r : Int32} {σ' : Sg} (h : DX1_baseOf l0 l1 l2 l3 σ = some (r, σ')) : Mt E l yX1_baseOf cX1_baseOf 6 (some .int) 2 0 0 [.ref (ad E l0), .int l1, .int l2, .int l3] σ (some (.int r)) σ' := by
  refine Mt.ofX (by decide) (Nat.le_of_ble_eq_true rfl) (L0 := [some (.ref (ad E l0)), some (.int l1), some (.int l2), some (.int l3), none, none]) (xEntN_ok [.ref (ad E l0), .int l1, .int l2, .int l3] 6) (fun p e s m args below meth c C hr hn => ?_)
  unfold DX1_baseOf at h
  refine x_iconst (v := 0) (pc := 0) C dX1_baseOf_0 (by decide) ?_
  refine x_istore (M := [some _, some _, some _, some _, some _, none]) (pc := 1) C dX1_baseOf_1 (by decide) rfl ?_
  exact x_sub (tX1_baseOf_3 C hr FU _ _ _ _ _ _ h) (xLe_s (xLe_s (xLe_s (xLe_s (xLe_s (xLe_n xLe_0))))))
def DX1_fareOf (l0 : Nat) (l1 : Int32) (σ : Sg) : Option (Int32 × Sg) :=
  chk (ckO σ 0 l0) <|
  chk (ckV (gR σ l0 18)) <|
  chk (ckG σ (gR σ l0 18) l1) <|
  chk (ckR σ (gR σ l0 18) l1.toNatClampNeg (0 : Int32)) <|
  some ((aG σ (gR σ l0 18) l1.toNatClampNeg (0 : Int32).toNatClampNeg), σ)
theorem mX1_fareOf (E : Ev) (l : Launch) {l0 : Nat} {l1 : Int32} {σ : Sg} {r : Int32} {σ' : Sg} (h : DX1_fareOf l0 l1 σ = some (r, σ')) : Mt E l yX1_fareOf cX1_fareOf 2 (some .int) 1 0 0 [.ref (ad E l0), .int l1] σ (some (.int r)) σ' := by
  refine Mt.ofX (by decide) (Nat.le_of_ble_eq_true rfl) (L0 := [some (.ref (ad E l0)), some (.int l1)]) (xEntN_ok [.ref (ad E l0), .int l1] 2) (fun p e s m args below meth c C hr hn => ?_)
  unfold DX1_fareOf at h
  refine x_aload_n (pc := 0) C dX1_fareOf_0 rfl rfl ?_
  obtain ⟨k, h⟩ := chk_s h
  have k2 := k
  obtain ⟨k, h⟩ := chk_s h
  refine x_getR (pc := 1) C fX1_70 rfl k2 k dX1_fareOf_1 ?_
  refine x_iload_n (pc := 4) C dX1_fareOf_4 rfl rfl ?_
  obtain ⟨k, h⟩ := chk_s h
  refine x_gald (pc := 5) C k dX1_fareOf_5 ?_
  refine x_iconst (v := 0) (pc := 6) C dX1_fareOf_6 (by decide) ?_
  obtain ⟨k, h⟩ := chk_s h
  refine x_rald (pc := 7) C k dX1_fareOf_7 ?_
  cases h
  exact x_iret C hr dX1_fareOf_8
def DX1_howOf (l0 : Nat) (l1 : Int32) (σ : Sg) : Option (Int32 × Sg) :=
  chk (ckO σ 0 l0) <|
  chk (ckV (gR σ l0 18)) <|
  chk (ckG σ (gR σ l0 18) l1) <|
  chk (ckR σ (gR σ l0 18) l1.toNatClampNeg (1 : Int32)) <|
  some ((aG σ (gR σ l0 18) l1.toNatClampNeg (1 : Int32).toNatClampNeg), σ)
theorem mX1_howOf (E : Ev) (l : Launch) {l0 : Nat} {l1 : Int32} {σ : Sg} {r : Int32} {σ' : Sg} (h : DX1_howOf l0 l1 σ = some (r, σ')) : Mt E l yX1_howOf cX1_howOf 2 (some .int) 1 0 0 [.ref (ad E l0), .int l1] σ (some (.int r)) σ' := by
  refine Mt.ofX (by decide) (Nat.le_of_ble_eq_true rfl) (L0 := [some (.ref (ad E l0)), some (.int l1)]) (xEntN_ok [.ref (ad E l0), .int l1] 2) (fun p e s m args below meth c C hr hn => ?_)
  unfold DX1_howOf at h
  refine x_aload_n (pc := 0) C dX1_howOf_0 rfl rfl ?_
  obtain ⟨k, h⟩ := chk_s h
  have k2 := k
  obtain ⟨k, h⟩ := chk_s h
  refine x_getR (pc := 1) C fX1_70 rfl k2 k dX1_howOf_1 ?_
  refine x_iload_n (pc := 4) C dX1_howOf_4 rfl rfl ?_
  obtain ⟨k, h⟩ := chk_s h
  refine x_gald (pc := 5) C k dX1_howOf_5 ?_
  refine x_iconst (v := 1) (pc := 6) C dX1_howOf_6 (by decide) ?_
  obtain ⟨k, h⟩ := chk_s h
  refine x_rald (pc := 7) C k dX1_howOf_7 ?_
  cases h
  exact x_iret C hr dX1_howOf_8
def DX1_couponsOf (l0 : Nat) (l1 : Int32) (σ : Sg) : Option (Int32 × Sg) :=
  chk (ckO σ 0 l0) <|
  chk (ckV (gR σ l0 18)) <|
  chk (ckG σ (gR σ l0 18) l1) <|
  chk (ckR σ (gR σ l0 18) l1.toNatClampNeg (2 : Int32)) <|
  some ((aG σ (gR σ l0 18) l1.toNatClampNeg (2 : Int32).toNatClampNeg), σ)
theorem mX1_couponsOf (E : Ev) (l : Launch) {l0 : Nat} {l1 : Int32} {σ : Sg} {r : Int32} {σ' : Sg} (h : DX1_couponsOf l0 l1 σ = some (r, σ')) : Mt E l yX1_couponsOf cX1_couponsOf 2 (some .int) 1 0 0 [.ref (ad E l0), .int l1] σ (some (.int r)) σ' := by
  refine Mt.ofX (by decide) (Nat.le_of_ble_eq_true rfl) (L0 := [some (.ref (ad E l0)), some (.int l1)]) (xEntN_ok [.ref (ad E l0), .int l1] 2) (fun p e s m args below meth c C hr hn => ?_)
  unfold DX1_couponsOf at h
  refine x_aload_n (pc := 0) C dX1_couponsOf_0 rfl rfl ?_
  obtain ⟨k, h⟩ := chk_s h
  have k2 := k
  obtain ⟨k, h⟩ := chk_s h
  refine x_getR (pc := 1) C fX1_70 rfl k2 k dX1_couponsOf_1 ?_
  refine x_iload_n (pc := 4) C dX1_couponsOf_4 rfl rfl ?_
  obtain ⟨k, h⟩ := chk_s h
  refine x_gald (pc := 5) C k dX1_couponsOf_5 ?_
  refine x_iconst (v := 2) (pc := 6) C dX1_couponsOf_6 (by decide) ?_
  obtain ⟨k, h⟩ := chk_s h
  refine x_rald (pc := 7) C k dX1_couponsOf_7 ?_
  cases h
  exact x_iret C hr dX1_couponsOf_8
def DX1_carrierTold (l0 : Nat) (l1 : Int32) (l2 : Int32) (σ : Sg) : Option (Int32 × Sg) :=
  chk (ckO σ 0 l0) <|
  chk (ckV (gR σ l0 18)) <|
  chk (ckG σ (gR σ l0 18) l1) <|
  chk (ckR σ (gR σ l0 18) l1.toNatClampNeg ((3 : Int32) + l2)) <|
  some ((aG σ (gR σ l0 18) l1.toNatClampNeg ((3 : Int32) + l2).toNatClampNeg), σ)
theorem mX1_carrierTold (E : Ev) (l : Launch) {l0 : Nat} {l1 : Int32} {l2 : Int32} {σ : Sg} {r : Int32} {σ' : Sg} (h : DX1_carrierTold l0 l1 l2 σ = some (r, σ')) : Mt E l yX1_carrierTold cX1_carrierTold 3 (some .int) 1 0 0 [.ref (ad E l0), .int l1, .int l2] σ (some (.int r)) σ' := by
  refine Mt.ofX (by decide) (Nat.le_of_ble_eq_true rfl) (L0 := [some (.ref (ad E l0)), some (.int l1), some (.int l2)]) (xEntN_ok [.ref (ad E l0), .int l1, .int l2] 3) (fun p e s m args below meth c C hr hn => ?_)
  unfold DX1_carrierTold at h
  refine x_aload_n (pc := 0) C dX1_carrierTold_0 rfl rfl ?_
  obtain ⟨k, h⟩ := chk_s h
  have k2 := k
  obtain ⟨k, h⟩ := chk_s h
  refine x_getR (pc := 1) C fX1_70 rfl k2 k dX1_carrierTold_1 ?_
  refine x_iload_n (pc := 4) C dX1_carrierTold_4 rfl rfl ?_
  obtain ⟨k, h⟩ := chk_s h
  refine x_gald (pc := 5) C k dX1_carrierTold_5 ?_
  refine x_iconst (v := 3) (pc := 6) C dX1_carrierTold_6 (by decide) ?_
  refine x_iload_n (pc := 7) C dX1_carrierTold_7 rfl rfl ?_
  refine x_iadd (pc := 8) C dX1_carrierTold_8 ?_
  obtain ⟨k, h⟩ := chk_s h
  refine x_rald (pc := 9) C k dX1_carrierTold_9 ?_
  cases h
  exact x_iret C hr dX1_carrierTold_10
def DX1_milesOf (l0 : Nat) (l1 : Int32) (l2 : Int32) (σ : Sg) : Option (Int32 × Sg) :=
  chk (ckO σ 0 l0) <|
  chk (ckV (gR σ l0 14)) <|
  chk (ckO σ 0 l0) <|
  chk (ckV (gR σ l0 19)) <|
  chk (ckG σ (gR σ l0 19) l1) <|
  chk (ckR σ (gR σ l0 19) l1.toNatClampNeg l2) <|
  chk (ckG σ (gR σ l0 14) (aG σ (gR σ l0 19) l1.toNatClampNeg l2.toNatClampNeg)) <|
  chk (ckO σ 0 l0) <|
  chk (ckV (gR σ l0 19)) <|
  chk (ckG σ (gR σ l0 19) l1) <|
  chk (ckR σ (gR σ l0 19) l1.toNatClampNeg (l2 + (1 : Int32))) <|
  chk (ckR σ (gR σ l0 14) ((aG σ (gR σ l0 19) l1.toNatClampNeg l2.toNatClampNeg).toNatClampNeg) (aG σ (gR σ l0 19) l1.toNatClampNeg (l2 + (1 : Int32)).toNatClampNeg)) <|
  some ((aG σ (gR σ l0 14) ((aG σ (gR σ l0 19) l1.toNatClampNeg l2.toNatClampNeg).toNatClampNeg) (aG σ (gR σ l0 19) l1.toNatClampNeg (l2 + (1 : Int32)).toNatClampNeg).toNatClampNeg), σ)
theorem mX1_milesOf (E : Ev) (l : Launch) {l0 : Nat} {l1 : Int32} {l2 : Int32} {σ : Sg} {r : Int32} {σ' : Sg} (h : DX1_milesOf l0 l1 l2 σ = some (r, σ')) : Mt E l yX1_milesOf cX1_milesOf 3 (some .int) 1 0 0 [.ref (ad E l0), .int l1, .int l2] σ (some (.int r)) σ' := by
  refine Mt.ofX (by decide) (Nat.le_of_ble_eq_true rfl) (L0 := [some (.ref (ad E l0)), some (.int l1), some (.int l2)]) (xEntN_ok [.ref (ad E l0), .int l1, .int l2] 3) (fun p e s m args below meth c C hr hn => ?_)
  unfold DX1_milesOf at h
  refine x_aload_n (pc := 0) C dX1_milesOf_0 rfl rfl ?_
  obtain ⟨k, h⟩ := chk_s h
  have k2 := k
  obtain ⟨k, h⟩ := chk_s h
  refine x_getR (pc := 1) C fX1_58 rfl k2 k dX1_milesOf_1 ?_
  refine x_aload_n (pc := 4) C dX1_milesOf_4 rfl rfl ?_
  obtain ⟨k, h⟩ := chk_s h
  have k2 := k
  obtain ⟨k, h⟩ := chk_s h
  refine x_getR (pc := 5) C fX1_73 rfl k2 k dX1_milesOf_5 ?_
  refine x_iload_n (pc := 8) C dX1_milesOf_8 rfl rfl ?_
  obtain ⟨k, h⟩ := chk_s h
  refine x_gald (pc := 9) C k dX1_milesOf_9 ?_
  refine x_iload_n (pc := 10) C dX1_milesOf_10 rfl rfl ?_
  obtain ⟨k, h⟩ := chk_s h
  refine x_rald (pc := 11) C k dX1_milesOf_11 ?_
  obtain ⟨k, h⟩ := chk_s h
  refine x_gald (pc := 12) C k dX1_milesOf_12 ?_
  refine x_aload_n (pc := 13) C dX1_milesOf_13 rfl rfl ?_
  obtain ⟨k, h⟩ := chk_s h
  have k2 := k
  obtain ⟨k, h⟩ := chk_s h
  refine x_getR (pc := 14) C fX1_73 rfl k2 k dX1_milesOf_14 ?_
  refine x_iload_n (pc := 17) C dX1_milesOf_17 rfl rfl ?_
  obtain ⟨k, h⟩ := chk_s h
  refine x_gald (pc := 18) C k dX1_milesOf_18 ?_
  refine x_iload_n (pc := 19) C dX1_milesOf_19 rfl rfl ?_
  refine x_iconst (v := 1) (pc := 20) C dX1_milesOf_20 (by decide) ?_
  refine x_iadd (pc := 21) C dX1_milesOf_21 ?_
  obtain ⟨k, h⟩ := chk_s h
  refine x_rald (pc := 22) C k dX1_milesOf_22 ?_
  obtain ⟨k, h⟩ := chk_s h
  refine x_rald (pc := 23) C k dX1_milesOf_23 ?_
  cases h
  exact x_iret C hr dX1_milesOf_24
end

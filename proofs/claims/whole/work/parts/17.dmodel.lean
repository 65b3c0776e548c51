section
variable {E : Ev} {p : Program} {l : Launch} {e : Env} {s : State} {m : MethodId} {args : Array Value} {below : List Frame} {meth : Method} {c : Code}
def DX8_readPlace_43 (σ : Sg) : Option (Unit × Sg) :=
  some ((), σ)
theorem tX8_readPlace_43 {r : Unit} {σ' : Sg} (C : Cx E p s m args meth c RX8 cX8_readPlace 1) (hr : meth.sig.returnType = none) {σ : Sg} (h : DX8_readPlace_43  σ = some (r, σ')) : Y E p l e (rmA 10 0 0) s m args below meth c none σ' 0 0 1 0 0 σ 43 [none] [] := by
  unfold DX8_readPlace_43 at h
  cases h
  exact x_vret C hr dX8_readPlace_43
def DX8_readPlace (l0 : Nat) (σ : Sg) : Option (Unit × Sg) :=
  chk (ckO σ 6 l0) <|
  chk (ckO σ 6 l0) <|
  bnd (DX8_isFull l0 (gI σ l0 3) (12 : Int32) σ) fun v1 σ2 =>
  if v1 = 0 then
    chk (ckO σ2 6 l0) <|
    chk (ckV (gR σ2 l0 34)) <|
    chk (ckO σ2 6 l0) <|
    chk (ckO σ2 6 l0) <|
    bnd (DX8_newName l0 (gR σ2 l0 34) (gI σ2 l0 3) σ2) fun _ σ3 =>
    chk (ckO σ3 6 l0) <|
    bnd (DX8_isEnd l0 σ3) fun v4 σ5 =>
    if v4 = 0 then
      DX8_readPlace_43 σ5
    else
      chk (ckO σ5 6 l0) <|
      chk (ckO σ5 6 l0) <|
      wlet (pI σ5 l0 3 ((gI σ5 l0 3) + (1 : Int32))) fun σ6 =>
      DX8_readPlace_43 σ6
  else
    some ((), σ2)
theorem mX8_readPlace (E : Ev) (l : Launch) {l0 : Nat} {σ : Sg} {r : Unit} {σ' : Sg} (h : DX8_readPlace l0 σ = some (r, σ')) : Mt E l yX8_readPlace cX8_readPlace 1 none 10 0 0 [.ref (ad E l0)] σ none σ' := by
  refine Mt.ofX (by decide) (Nat.le_of_ble_eq_true rfl) (L0 := [some (.ref (ad E l0))]) (xEntN_ok [.ref (ad E l0)] 1) (fun p e s m args below meth c C hr hn => ?_)
  unfold DX8_readPlace at h
  refine x_aload_n (pc := 0) C dX8_readPlace_0 rfl rfl ?_
  refine x_aload_n (pc := 1) C dX8_readPlace_1 rfl rfl ?_
  obtain ⟨k, h⟩ := chk_s h
  refine x_getI (pc := 2) C fX8_182 rfl k dX8_readPlace_2 ?_
  refine x_bipush (v := 12) (pc := 5) C dX8_readPlace_5 (by decide) ?_
  obtain ⟨k, h⟩ := chk_s h
  have k2 := k
  obtain ⟨v1, σ2, k, h⟩ := bnd_s h
  refine x_callV1 (pc := 7) C (mX8_isFull E l k) cl6 k2 cX8_202 nX8_isFull sX8_isFull rfl rfl (Nat.le_of_ble_eq_true rfl) ⟨Nat.le_of_ble_eq_true rfl, Nat.le_of_ble_eq_true rfl, Nat.le_of_ble_eq_true rfl, Nat.le_of_ble_eq_true rfl⟩ dX8_readPlace_7 ?_
  refine x_if_eq (pc := 10) (tgt := 14) C dX8_readPlace_10 (by decide) (fun q => ?_) (fun q => ?_)
  · rw [if_pos q] at h
    refine x_aload_n (pc := 14) C dX8_readPlace_14 rfl rfl ?_
    refine x_aload_n (pc := 15) C dX8_readPlace_15 rfl rfl ?_
    obtain ⟨k, h⟩ := chk_s h
    have k2 := k
    obtain ⟨k, h⟩ := chk_s h
    refine x_getR (pc := 16) C fX8_47 rfl k2 k dX8_readPlace_16 ?_
    refine x_aload_n (pc := 19) C dX8_readPlace_19 rfl rfl ?_
    obtain ⟨k, h⟩ := chk_s h
    refine x_getI (pc := 20) C fX8_182 rfl k dX8_readPlace_20 ?_
    obtain ⟨k, h⟩ := chk_s h
    have k2 := k
    obtain ⟨u0, σ3, k, h⟩ := bnd_s h
    refine x_callV0 (pc := 23) C (mX8_newName E l k) cl6 k2 cX8_241 nX8_newName sX8_newName rfl rfl (Nat.le_of_ble_eq_true rfl) ⟨Nat.le_of_ble_eq_true rfl, Nat.le_of_ble_eq_true rfl, Nat.le_of_ble_eq_true rfl, Nat.le_of_ble_eq_true rfl⟩ dX8_readPlace_23 ?_
    refine x_aload_n (pc := 26) C dX8_readPlace_26 rfl rfl ?_
    obtain ⟨k, h⟩ := chk_s h
    have k2 := k
    obtain ⟨v4, σ5, k, h⟩ := bnd_s h
    refine x_callV1 (pc := 27) C (mX8_isEnd E l k) cl6 k2 cX8_217 nX8_isEnd sX8_isEnd rfl rfl (Nat.le_of_ble_eq_true rfl) ⟨Nat.le_of_ble_eq_true rfl, Nat.le_of_ble_eq_true rfl, Nat.le_of_ble_eq_true rfl, Nat.le_of_ble_eq_true rfl⟩ dX8_readPlace_27 ?_
    refine x_if_eq (pc := 30) (tgt := 43) C dX8_readPlace_30 (by decide) (fun q => ?_) (fun q => ?_)
    · rw [if_pos q] at h
      exact x_sub (tX8_readPlace_43 C hr h) (xLe_n xLe_0)
    · rw [if_neg q] at h
      refine x_aload_n (pc := 33) C dX8_readPlace_33 rfl rfl ?_
      refine x_dup (pc := 34) C dX8_readPlace_34 rfl ?_
      obtain ⟨k, h⟩ := chk_s h
      refine x_getI (pc := 35) C fX8_182 rfl k dX8_readPlace_35 ?_
      refine x_iconst (v := 1) (pc := 38) C dX8_readPlace_38 (by decide) ?_
      refine x_iadd (pc := 39) C dX8_readPlace_39 ?_
      obtain ⟨k, h⟩ := chk_s h
      obtain ⟨σ6, e1, h⟩ := wlet_s h
      refine x_putI (pc := 40) C pX8_182 rfl k dX8_readPlace_40 (x_eq e1 ?_)
      exact x_sub (tX8_readPlace_43 C hr h) (xLe_n xLe_0)
  · rw [if_neg q] at h
    cases h
    exact x_vret C hr dX8_readPlace_13
def DX8_readCarrier_43 (σ : Sg) : Option (Unit × Sg) :=
  some ((), σ)
theorem tX8_readCarrier_43 {r : Unit} {σ' : Sg} (C : Cx E p s m args meth c RX8 cX8_readCarrier 1) (hr : meth.sig.returnType = none) {σ : Sg} (h : DX8_readCarrier_43  σ = some (r, σ')) : Y E p l e (rmA 10 0 0) s m args below meth c none σ' 0 0 1 0 0 σ 43 [none] [] := by
  unfold DX8_readCarrier_43 at h
  cases h
  exact x_vret C hr dX8_readCarrier_43
def DX8_readCarrier (l0 : Nat) (σ : Sg) : Option (Unit × Sg) :=
  chk (ckO σ 6 l0) <|
  chk (ckO σ 6 l0) <|
  bnd (DX8_isFull l0 (gI σ l0 4) (6 : Int32) σ) fun v1 σ2 =>
  if v1 = 0 then
    chk (ckO σ2 6 l0) <|
    chk (ckV (gR σ2 l0 35)) <|
    chk (ckO σ2 6 l0) <|
    chk (ckO σ2 6 l0) <|
    bnd (DX8_newName l0 (gR σ2 l0 35) (gI σ2 l0 4) σ2) fun _ σ3 =>
    chk (ckO σ3 6 l0) <|
    bnd (DX8_isEnd l0 σ3) fun v4 σ5 =>
    if v4 = 0 then
      DX8_readCarrier_43 σ5
    else
      chk (ckO σ5 6 l0) <|
      chk (ckO σ5 6 l0) <|
      wlet (pI σ5 l0 4 ((gI σ5 l0 4) + (1 : Int32))) fun σ6 =>
      DX8_readCarrier_43 σ6
  else
    some ((), σ2)
theorem mX8_readCarrier (E : Ev) (l : Launch) {l0 : Nat} {σ : Sg} {r : Unit} {σ' : Sg} (h : DX8_readCarrier l0 σ = some (r, σ')) : Mt E l yX8_readCarrier cX8_readCarrier 1 none 10 0 0 [.ref (ad E l0)] σ none σ' := by
  refine Mt.ofX (by decide) (Nat.le_of_ble_eq_true rfl) (L0 := [some (.ref (ad E l0))]) (xEntN_ok [.ref (ad E l0)] 1) (fun p e s m args below meth c C hr hn => ?_)
  unfold DX8_readCarrier at h
  refine x_aload_n (pc := 0) C dX8_readCarrier_0 rfl rfl ?_
  refine x_aload_n (pc := 1) C dX8_readCarrier_1 rfl rfl ?_
  obtain ⟨k, h⟩ := chk_s h
  refine x_getI (pc := 2) C fX8_189 rfl k dX8_readCarrier_2 ?_
  refine x_bipush (v := 6) (pc := 5) C dX8_readCarrier_5 (by decide) ?_
  obtain ⟨k, h⟩ := chk_s h
  have k2 := k
  obtain ⟨v1, σ2, k, h⟩ := bnd_s h
  refine x_callV1 (pc := 7) C (mX8_isFull E l k) cl6 k2 cX8_202 nX8_isFull sX8_isFull rfl rfl (Nat.le_of_ble_eq_true rfl) ⟨Nat.le_of_ble_eq_true rfl, Nat.le_of_ble_eq_true rfl, Nat.le_of_ble_eq_true rfl, Nat.le_of_ble_eq_true rfl⟩ dX8_readCarrier_7 ?_
  refine x_if_eq (pc := 10) (tgt := 14) C dX8_readCarrier_10 (by decide) (fun q => ?_) (fun q => ?_)
  · rw [if_pos q] at h
    refine x_aload_n (pc := 14) C dX8_readCarrier_14 rfl rfl ?_
    refine x_aload_n (pc := 15) C dX8_readCarrier_15 rfl rfl ?_
    obtain ⟨k, h⟩ := chk_s h
    have k2 := k
    obtain ⟨k, h⟩ := chk_s h
    refine x_getR (pc := 16) C fX8_50 rfl k2 k dX8_readCarrier_16 ?_
    refine x_aload_n (pc := 19) C dX8_readCarrier_19 rfl rfl ?_
    obtain ⟨k, h⟩ := chk_s h
    refine x_getI (pc := 20) C fX8_189 rfl k dX8_readCarrier_20 ?_
    obtain ⟨k, h⟩ := chk_s h
    have k2 := k
    obtain ⟨u0, σ3, k, h⟩ := bnd_s h
    refine x_callV0 (pc := 23) C (mX8_newName E l k) cl6 k2 cX8_241 nX8_newName sX8_newName rfl rfl (Nat.le_of_ble_eq_true rfl) ⟨Nat.le_of_ble_eq_true rfl, Nat.le_of_ble_eq_true rfl, Nat.le_of_ble_eq_true rfl, Nat.le_of_ble_eq_true rfl⟩ dX8_readCarrier_23 ?_
    refine x_aload_n (pc := 26) C dX8_readCarrier_26 rfl rfl ?_
    obtain ⟨k, h⟩ := chk_s h
    have k2 := k
    obtain ⟨v4, σ5, k, h⟩ := bnd_s h
    refine x_callV1 (pc := 27) C (mX8_isEnd E l k) cl6 k2 cX8_217 nX8_isEnd sX8_isEnd rfl rfl (Nat.le_of_ble_eq_true rfl) ⟨Nat.le_of_ble_eq_true rfl, Nat.le_of_ble_eq_true rfl, Nat.le_of_ble_eq_true rfl, Nat.le_of_ble_eq_true rfl⟩ dX8_readCarrier_27 ?_
    refine x_if_eq (pc := 30) (tgt := 43) C dX8_readCarrier_30 (by decide) (fun q => ?_) (fun q => ?_)
    · rw [if_pos q] at h
      exact x_sub (tX8_readCarrier_43 C hr h) (xLe_n xLe_0)
    · rw [if_neg q] at h
      refine x_aload_n (pc := 33) C dX8_readCarrier_33 rfl rfl ?_
      refine x_dup (pc := 34) C dX8_readCarrier_34 rfl ?_
      obtain ⟨k, h⟩ := chk_s h
      refine x_getI (pc := 35) C fX8_189 rfl k dX8_readCarrier_35 ?_
      refine x_iconst (v := 1) (pc := 38) C dX8_readCarrier_38 (by decide) ?_
      refine x_iadd (pc := 39) C dX8_readCarrier_39 ?_
      obtain ⟨k, h⟩ := chk_s h
      obtain ⟨σ6, e1, h⟩ := wlet_s h
      refine x_putI (pc := 40) C pX8_189 rfl k dX8_readCarrier_40 (x_eq e1 ?_)
      exact x_sub (tX8_readCarrier_43 C hr h) (xLe_n xLe_0)
  · rw [if_neg q] at h
    cases h
    exact x_vret C hr dX8_readCarrier_13
def DX8_readLine_125 (l0 : Nat) (σ : Sg) : Option (Unit × Sg) :=
  chk (ckO σ 6 l0) <|
  bnd (DX8_goOn l0 σ) fun _ σ1 =>
  chk (ckO σ1 6 l0) <|
  chk (ckO σ1 6 l0) <|
  wlet (pI σ1 l0 11 ((gI σ1 l0 11) + (1 : Int32))) fun σ2 =>
  some ((), σ2)
theorem tX8_readLine_125 {r : Unit} {σ' : Sg} (C : Cx E p s m args meth c RX8 cX8_readLine 2) (hr : meth.sig.returnType = none) {l0 : Nat} {σ : Sg} (h : DX8_readLine_125 l0 σ = some (r, σ')) : Y E p l e (rmA 11 0 0) s m args below meth c none σ' 0 0 2 0 0 σ 125 [some (.ref (ad E l0)), none] [] := by
  unfold DX8_readLine_125 at h
  refine x_aload_n (pc := 125) C dX8_readLine_125 rfl rfl ?_
  obtain ⟨k, h⟩ := chk_s h
  have k2 := k
  obtain ⟨u0, σ1, k, h⟩ := bnd_s h
  refine x_callV0 (pc := 126) C (mX8_goOn E l k) cl6 k2 cX8_175 nX8_goOn sX8_goOn rfl rfl (Nat.le_of_ble_eq_true rfl) ⟨Nat.le_of_ble_eq_true rfl, Nat.le_of_ble_eq_true rfl, Nat.le_of_ble_eq_true rfl, Nat.le_of_ble_eq_true rfl⟩ dX8_readLine_126 ?_
  refine x_aload_n (pc := 129) C dX8_readLine_129 rfl rfl ?_
  refine x_dup (pc := 130) C dX8_readLine_130 rfl ?_
  obtain ⟨k, h⟩ := chk_s h
  refine x_getI (pc := 131) C fX8_270 rfl k dX8_readLine_131 ?_
  refine x_iconst (v := 1) (pc := 134) C dX8_readLine_134 (by decide) ?_
  refine x_iadd (pc := 135) C dX8_readLine_135 ?_
  obtain ⟨k, h⟩ := chk_s h
  obtain ⟨σ2, e1, h⟩ := wlet_s h
  refine x_putI (pc := 136) C pX8_270 rfl k dX8_readLine_136 (x_eq e1 ?_)
  cases h
  exact x_vret C hr dX8_readLine_139
def DX8_readLine_15 (l0 : Nat) (s0 : Int32) (σ : Sg) : Option (Unit × Sg) :=
  if s0 = 0 then
    chk (ckO σ 6 l0) <|
    bnd (DX8_readPlace l0 σ) fun _ σ1 =>
    DX8_readLine_125 l0 σ1
  else
    if s0 = 1 then
      chk (ckO σ 6 l0) <|
      bnd (DX8_readCarrier l0 σ) fun _ σ2 =>
      DX8_readLine_125 l0 σ2
    else
      if s0 = 2 then
        chk (ckO σ 6 l0) <|
        bnd (DX8_readLeg l0 σ) fun _ σ3 =>
        DX8_readLine_125 l0 σ3
      else
        if s0 = 3 then
          chk (ckO σ 6 l0) <|
          bnd (DX8_readBand l0 σ) fun _ σ4 =>
          DX8_readLine_125 l0 σ4
        else
          if s0 = 4 then
            chk (ckO σ 6 l0) <|
            bnd (DX8_readProviso l0 σ) fun _ σ5 =>
            DX8_readLine_125 l0 σ5
          else
            if s0 = 5 then
              chk (ckO σ 6 l0) <|
              bnd (DX8_readBase l0 σ) fun _ σ6 =>
              DX8_readLine_125 l0 σ6
            else
              if s0 = 6 then
                chk (ckO σ 6 l0) <|
                bnd (DX8_readRate l0 σ) fun _ σ7 =>
                DX8_readLine_125 l0 σ7
              else
                if s0 = 7 then
                  chk (ckO σ 6 l0) <|
                  bnd (DX8_readTicket l0 σ) fun _ σ8 =>
                  DX8_readLine_125 l0 σ8
                else
                  chk (ckO σ 6 l0) <|
                  bnd (DX8_wrong l0 (1 : Int32) σ) fun _ σ9 =>
                  DX8_readLine_125 l0 σ9
theorem tX8_readLine_15 {r : Unit} {σ' : Sg} (C : Cx E p s m args meth c RX8 cX8_readLine 2) (hr : meth.sig.returnType = none) {l0 : Nat} {s0 : Int32} {σ : Sg} (h : DX8_readLine_15 l0 s0 σ = some (r, σ')) : Y E p l e (rmA 11 0 0) s m args below meth c none σ' 0 0 2 0 0 σ 15 [some (.ref (ad E l0)), none] [.int s0] := by
  unfold DX8_readLine_15 at h
  refine x_istore_n (M := [some _, some _]) (pc := 15) C dX8_readLine_15 rfl (by decide) rfl ?_
  refine x_iload_n (pc := 16) C dX8_readLine_16 rfl rfl ?_
  refine br_em (c := s0 = 0) (fun q0 => ?_) (fun q0 => ?_)
  · rw [if_pos q0] at h
    refine x_switchIn (pc := 17) (tgt := 64) C dX8_readLine_17 (by rw [q0]; decide) (by rw [q0]; decide) (o := 47) (by rw [q0]; rfl) (by decide) ?_
    refine x_aload_n (pc := 64) C dX8_readLine_64 rfl rfl ?_
    obtain ⟨k, h⟩ := chk_s h
    have k2 := k
    obtain ⟨u0, σ1, k, h⟩ := bnd_s h
    refine x_callV0 (pc := 65) C (mX8_readPlace E l k) cl6 k2 cX8_246 nX8_readPlace sX8_readPlace rfl rfl (Nat.le_of_ble_eq_true rfl) ⟨Nat.le_of_ble_eq_true rfl, Nat.le_of_ble_eq_true rfl, Nat.le_of_ble_eq_true rfl, Nat.le_of_ble_eq_true rfl⟩ dX8_readLine_65 ?_
    refine x_goto (tgt := 125) (pc := 68) C dX8_readLine_68 (by decide) ?_
    exact x_sub (tX8_readLine_125 C hr h) (xLe_s (xLe_n xLe_0))
  · rw [if_neg q0] at h
    refine br_em (c := s0 = 1) (fun q1 => ?_) (fun q1 => ?_)
    · rw [if_pos q1] at h
      refine x_switchIn (pc := 17) (tgt := 71) C dX8_readLine_17 (by rw [q1]; decide) (by rw [q1]; decide) (o := 54) (by rw [q1]; rfl) (by decide) ?_
      refine x_aload_n (pc := 71) C dX8_readLine_71 rfl rfl ?_
      obtain ⟨k, h⟩ := chk_s h
      have k2 := k
      obtain ⟨u0, σ2, k, h⟩ := bnd_s h
      refine x_callV0 (pc := 72) C (mX8_readCarrier E l k) cl6 k2 cX8_249 nX8_readCarrier sX8_readCarrier rfl rfl (Nat.le_of_ble_eq_true rfl) ⟨Nat.le_of_ble_eq_true rfl, Nat.le_of_ble_eq_true rfl, Nat.le_of_ble_eq_true rfl, Nat.le_of_ble_eq_true rfl⟩ dX8_readLine_72 ?_
      refine x_goto (tgt := 125) (pc := 75) C dX8_readLine_75 (by decide) ?_
      exact x_sub (tX8_readLine_125 C hr h) (xLe_s (xLe_n xLe_0))
    · rw [if_neg q1] at h
      refine br_em (c := s0 = 2) (fun q2 => ?_) (fun q2 => ?_)
      · rw [if_pos q2] at h
        refine x_switchIn (pc := 17) (tgt := 78) C dX8_readLine_17 (by rw [q2]; decide) (by rw [q2]; decide) (o := 61) (by rw [q2]; rfl) (by decide) ?_
        refine x_aload_n (pc := 78) C dX8_readLine_78 rfl rfl ?_
        obtain ⟨k, h⟩ := chk_s h
        have k2 := k
        obtain ⟨u0, σ3, k, h⟩ := bnd_s h
        refine x_callV0 (pc := 79) C (mX8_readLeg E l k) cl6 k2 cX8_252 nX8_readLeg sX8_readLeg rfl rfl (Nat.le_of_ble_eq_true rfl) ⟨Nat.le_of_ble_eq_true rfl, Nat.le_of_ble_eq_true rfl, Nat.le_of_ble_eq_true rfl, Nat.le_of_ble_eq_true rfl⟩ dX8_readLine_79 ?_
        refine x_goto (tgt := 125) (pc := 82) C dX8_readLine_82 (by decide) ?_
        exact x_sub (tX8_readLine_125 C hr h) (xLe_s (xLe_n xLe_0))
      · rw [if_neg q2] at h
        refine br_em (c := s0 = 3) (fun q3 => ?_) (fun q3 => ?_)
        · rw [if_pos q3] at h
          refine x_switchIn (pc := 17) (tgt := 85) C dX8_readLine_17 (by rw [q3]; decide) (by rw [q3]; decide) (o := 68) (by rw [q3]; rfl) (by decide) ?_
          refine x_aload_n (pc := 85) C dX8_readLine_85 rfl rfl ?_
          obtain ⟨k, h⟩ := chk_s h
          have k2 := k
          obtain ⟨u0, σ4, k, h⟩ := bnd_s h
          refine x_callV0 (pc := 86) C (mX8_readBand E l k) cl6 k2 cX8_255 nX8_readBand sX8_readBand rfl rfl (Nat.le_of_ble_eq_true rfl) ⟨Nat.le_of_ble_eq_true rfl, Nat.le_of_ble_eq_true rfl, Nat.le_of_ble_eq_true rfl, Nat.le_of_ble_eq_true rfl⟩ dX8_readLine_86 ?_
          refine x_goto (tgt := 125) (pc := 89) C dX8_readLine_89 (by decide) ?_
          exact x_sub (tX8_readLine_125 C hr h) (xLe_s (xLe_n xLe_0))
        · rw [if_neg q3] at h
          refine br_em (c := s0 = 4) (fun q4 => ?_) (fun q4 => ?_)
          · rw [if_pos q4] at h
            refine x_switchIn (pc := 17) (tgt := 92) C dX8_readLine_17 (by rw [q4]; decide) (by rw [q4]; decide) (o := 75) (by rw [q4]; rfl) (by decide) ?_
            refine x_aload_n (pc := 92) C dX8_readLine_92 rfl rfl ?_
            obtain ⟨k, h⟩ := chk_s h
            have k2 := k
            obtain ⟨u0, σ5, k, h⟩ := bnd_s h
            refine x_callV0 (pc := 93) C (mX8_readProviso E l k) cl6 k2 cX8_258 nX8_readProviso sX8_readProviso rfl rfl (Nat.le_of_ble_eq_true rfl) ⟨Nat.le_of_ble_eq_true rfl, Nat.le_of_ble_eq_true rfl, Nat.le_of_ble_eq_true rfl, Nat.le_of_ble_eq_true rfl⟩ dX8_readLine_93 ?_
            refine x_goto (tgt := 125) (pc := 96) C dX8_readLine_96 (by decide) ?_
            exact x_sub (tX8_readLine_125 C hr h) (xLe_s (xLe_n xLe_0))
          · rw [if_neg q4] at h
            refine br_em (c := s0 = 5) (fun q5 => ?_) (fun q5 => ?_)
            · rw [if_pos q5] at h
              refine x_switchIn (pc := 17) (tgt := 99) C dX8_readLine_17 (by rw [q5]; decide) (by rw [q5]; decide) (o := 82) (by rw [q5]; rfl) (by decide) ?_
              refine x_aload_n (pc := 99) C dX8_readLine_99 rfl rfl ?_
              obtain ⟨k, h⟩ := chk_s h
              have k2 := k
              obtain ⟨u0, σ6, k, h⟩ := bnd_s h
              refine x_callV0 (pc := 100) C (mX8_readBase E l k) cl6 k2 cX8_261 nX8_readBase sX8_readBase rfl rfl (Nat.le_of_ble_eq_true rfl) ⟨Nat.le_of_ble_eq_true rfl, Nat.le_of_ble_eq_true rfl, Nat.le_of_ble_eq_true rfl, Nat.le_of_ble_eq_true rfl⟩ dX8_readLine_100 ?_
              refine x_goto (tgt := 125) (pc := 103) C dX8_readLine_103 (by decide) ?_
              exact x_sub (tX8_readLine_125 C hr h) (xLe_s (xLe_n xLe_0))
            · rw [if_neg q5] at h
              refine br_em (c := s0 = 6) (fun q6 => ?_) (fun q6 => ?_)
              · rw [if_pos q6] at h
                refine x_switchIn (pc := 17) (tgt := 106) C dX8_readLine_17 (by rw [q6]; decide) (by rw [q6]; decide) (o := 89) (by rw [q6]; rfl) (by decide) ?_
                refine x_aload_n (pc := 106) C dX8_readLine_106 rfl rfl ?_
                obtain ⟨k, h⟩ := chk_s h
                have k2 := k
                obtain ⟨u0, σ7, k, h⟩ := bnd_s h
                refine x_callV0 (pc := 107) C (mX8_readRate E l k) cl6 k2 cX8_264 nX8_readRate sX8_readRate rfl rfl (Nat.le_of_ble_eq_true rfl) ⟨Nat.le_of_ble_eq_true rfl, Nat.le_of_ble_eq_true rfl, Nat.le_of_ble_eq_true rfl, Nat.le_of_ble_eq_true rfl⟩ dX8_readLine_107 ?_
                refine x_goto (tgt := 125) (pc := 110) C dX8_readLine_110 (by decide) ?_
                exact x_sub (tX8_readLine_125 C hr h) (xLe_s (xLe_n xLe_0))
              · rw [if_neg q6] at h
                refine br_em (c := s0 = 7) (fun q7 => ?_) (fun q7 => ?_)
                · rw [if_pos q7] at h
                  refine x_switchIn (pc := 17) (tgt := 113) C dX8_readLine_17 (by rw [q7]; decide) (by rw [q7]; decide) (o := 96) (by rw [q7]; rfl) (by decide) ?_
                  refine x_aload_n (pc := 113) C dX8_readLine_113 rfl rfl ?_
                  obtain ⟨k, h⟩ := chk_s h
                  have k2 := k
                  obtain ⟨u0, σ8, k, h⟩ := bnd_s h
                  refine x_callV0 (pc := 114) C (mX8_readTicket E l k) cl6 k2 cX8_267 nX8_readTicket sX8_readTicket rfl rfl (Nat.le_of_ble_eq_true rfl) ⟨Nat.le_of_ble_eq_true rfl, Nat.le_of_ble_eq_true rfl, Nat.le_of_ble_eq_true rfl, Nat.le_of_ble_eq_true rfl⟩ dX8_readLine_114 ?_
                  refine x_goto (tgt := 125) (pc := 117) C dX8_readLine_117 (by decide) ?_
                  exact x_sub (tX8_readLine_125 C hr h) (xLe_s (xLe_n xLe_0))
                · rw [if_neg q7] at h
                  have eq0 := sw_ne (k := 0) q0 (by decide)
                  have eq1 := sw_ne (k := 1) q1 (by decide)
                  have eq2 := sw_ne (k := 2) q2 (by decide)
                  have eq3 := sw_ne (k := 3) q3 (by decide)
                  have eq4 := sw_ne (k := 4) q4 (by decide)
                  have eq5 := sw_ne (k := 5) q5 (by decide)
                  have eq6 := sw_ne (k := 6) q6 (by decide)
                  have eq7 := sw_ne (k := 7) q7 (by decide)
                  refine x_switchOut (pc := 17) (tgt := 120) C dX8_readLine_17 (by omega) (by decide) ?_
                  refine x_aload_n (pc := 120) C dX8_readLine_120 rfl rfl ?_
                  refine x_iconst (v := 1) (pc := 121) C dX8_readLine_121 (by decide) ?_
                  obtain ⟨k, h⟩ := chk_s h
                  have k2 := k
                  obtain ⟨u0, σ9, k, h⟩ := bnd_s h
                  refine x_callV0 (pc := 122) C (mX8_wrong E l k) cl6 k2 cX8_171 nX8_wrong sX8_wrong rfl rfl (Nat.le_of_ble_eq_true rfl) ⟨Nat.le_of_ble_eq_true rfl, Nat.le_of_ble_eq_true rfl, Nat.le_of_ble_eq_true rfl, Nat.le_of_ble_eq_true rfl⟩ dX8_readLine_122 ?_
                  exact x_sub (tX8_readLine_125 C hr h) (xLe_s (xLe_n xLe_0))
def DX8_readLine (l0 : Nat) (σ : Sg) : Option (Unit × Sg) :=
  chk (ckO σ 6 l0) <|
  if (gI σ l0 26) = 0 then
    chk (ckO σ 6 l0) <|
    DX8_readLine_15 l0 (gI σ l0 27) σ
  else
    DX8_readLine_15 l0 (-1 : Int32) σ
theorem mX8_readLine (E : Ev) (l : Launch) {l0 : Nat} {σ : Sg} {r : Unit} {σ' : Sg} (h : DX8_readLine l0 σ = some (r, σ')) : Mt E l yX8_readLine cX8_readLine 2 none 11 0 0 [.ref (ad E l0)] σ none σ' := by
  refine Mt.ofX (by decide) (Nat.le_of_ble_eq_true rfl) (L0 := [some (.ref (ad E l0)), none]) (xEntN_ok [.ref (ad E l0)] 2) (fun p e s m args below meth c C hr hn => ?_)
  unfold DX8_readLine at h
  refine x_aload_n (pc := 0) C dX8_readLine_0 rfl rfl ?_
  obtain ⟨k, h⟩ := chk_s h
  refine x_getI (pc := 1) C fX8_131 rfl k dX8_readLine_1 ?_
  refine x_if_ne (pc := 4) (tgt := 14) C dX8_readLine_4 (by decide) (fun q => ?_) (fun q => ?_)
  · rw [if_pos q] at h
    refine x_aload_n (pc := 7) C dX8_readLine_7 rfl rfl ?_
    obtain ⟨k, h⟩ := chk_s h
    refine x_getI (pc := 8) C fX8_144 rfl k dX8_readLine_8 ?_
    refine x_goto (tgt := 15) (pc := 11) C dX8_readLine_11 (by decide) ?_
    exact x_sub (tX8_readLine_15 C hr h) (xLe_s (xLe_n xLe_0))
  · rw [if_neg q] at h
    refine x_iconst (v := -1) (pc := 14) C dX8_readLine_14 (by decide) ?_
    exact x_sub (tX8_readLine_15 C hr h) (xLe_s (xLe_n xLe_0))
def DX8_copies_43 (K3 : Nat → Nat → Int32 → Int32 → Int32 → Sg → Option (Int32 × Sg)) (l0 : Nat) (l1 : Nat) (l2 : Int32) (l3 : Int32) (l4 : Int32) (σ : Sg) : Option (Int32 × Sg) :=
  K3 l0 l1 l2 l3 (l4 + (1 : Int32)) σ
theorem tX8_copies_43 {r : Int32} {σ' : Sg} (C : Cx E p s m args meth c RX8 cX8_copies 5) (hr : meth.sig.returnType = (some .int)) {K3 : Nat → Nat → Int32 → Int32 → Int32 → Sg → Option (Int32 × Sg)} (hK3 : ∀ (l0 : Nat) (l1 : Nat) (l2 : Int32) (l3 : Int32) (l4 : Int32) (σ : Sg), K3 l0 l1 l2 l3 l4 σ = some (r, σ') → Y E p l e (rmA 1 0 0) s m args below meth c (some (.int r)) σ' 0 0 5 0 0 σ 3 [some (.ref (ad E l0)), some (.ref (ad E l1)), some (.int l2), some (.int l3), some (.int l4)] []) {l0 : Nat} {l1 : Nat} {l2 : Int32} {l3 : Int32} {l4 : Int32} {σ : Sg} (h : DX8_copies_43 K3 l0 l1 l2 l3 l4 σ = some (r, σ')) : Y E p l e (rmA 1 0 0) s m args below meth c (some (.int r)) σ' 0 0 5 0 0 σ 43 [some (.ref (ad E l0)), some (.ref (ad E l1)), some (.int l2), some (.int l3), some (.int l4)] [] := by
  unfold DX8_copies_43 at h
  refine x_iinc (v := 1) (M := [some _, some _, some _, some _, some _]) (pc := 43) C dX8_copies_43 rfl (by decide) (by decide) rfl ?_
  refine x_goto (tgt := 3) (pc := 46) C dX8_copies_46 (by decide) ?_
  exact x_sub (hK3 _ _ _ _ _ _ h) (xLe_s (xLe_s (xLe_s (xLe_s (xLe_s xLe_0)))))
def DX8_copies_49 (l1 : Nat) (l2 : Int32) (σ : Sg) : Option (Int32 × Sg) :=
  chk (ckL σ l1) <|
  some ((l2 + (nI (shp l1).2.1)), σ)
theorem tX8_copies_49 {r : Int32} {σ' : Sg} (C : Cx E p s m args meth c RX8 cX8_copies 5) (hr : meth.sig.returnType = (some .int)) {l1 : Nat} {l2 : Int32} {σ : Sg} (h : DX8_copies_49 l1 l2 σ = some (r, σ')) : Y E p l e (rmA 1 0 0) s m args below meth c (some (.int r)) σ' 0 0 5 0 0 σ 49 [none, some (.ref (ad E l1)), some (.int l2), none, none] [] := by
  unfold DX8_copies_49 at h
  refine x_iload_n (pc := 49) C dX8_copies_49 rfl rfl ?_
  refine x_aload_n (pc := 50) C dX8_copies_50 rfl rfl ?_
  obtain ⟨k, h⟩ := chk_s h
  refine x_alen (pc := 51) C k dX8_copies_51 ?_
  refine x_iadd (pc := 52) C dX8_copies_52 ?_
  cases h
  exact x_iret C hr dX8_copies_53
def DX8_copies_3 : Nat → Nat → Nat → Int32 → Int32 → Int32 → Sg → Option (Int32 × Sg)
  | 0, _, _, _, _, _, _ => none
  | n + 1, l0, l1, l2, l3, l4, σ =>
    chk (ckL σ l1) <|
    if (nI (shp l1).2.1) ≤ l4 then
      DX8_copies_49 l1 l2 σ
    else
      if l3 = 0 then
        chk (ckO σ 6 l0) <|
        chk (ckV (gR σ l0 38)) <|
        chk (ckI σ l1 l4) <|
        chk (ckI σ (gR σ l0 38) (l2 + l4)) <|
        wlet (wI σ (gR σ l0 38) (l2 + l4).toNatClampNeg (aI σ l1 l4.toNatClampNeg)) fun σ1 =>
        DX8_copies_43 (DX8_copies_3 n) l0 l1 l2 l3 l4 σ1
      else
        chk (ckO σ 6 l0) <|
        chk (ckV (gR σ l0 38)) <|
        chk (ckI σ (gR σ l0 38) (l2 + l4)) <|
        chk (ckI σ l1 l4) <|
        wlet (wI σ l1 l4.toNatClampNeg (aI σ (gR σ l0 38) (l2 + l4).toNatClampNeg)) fun σ2 =>
        DX8_copies_43 (DX8_copies_3 n) l0 l1 l2 l3 l4 σ2
theorem tX8_copies_3 {r : Int32} {σ' : Sg} (C : Cx E p s m args meth c RX8 cX8_copies 5) (hr : meth.sig.returnType = (some .int)) : ∀ (n : Nat) (l0 : Nat) (l1 : Nat) (l2 : Int32) (l3 : Int32) (l4 : Int32) (σ : Sg) (h : DX8_copies_3 n l0 l1 l2 l3 l4 σ = some (r, σ')), Y E p l e (rmA 1 0 0) s m args below meth c (some (.int r)) σ' 0 0 5 0 0 σ 3 [some (.ref (ad E l0)), some (.ref (ad E l1)), some (.int l2), some (.int l3), some (.int l4)] [] := by
  intro n
  induction n with
  | zero => intro l0 l1 l2 l3 l4 σ h; cases h
  | succ n ih =>
    intro l0 l1 l2 l3 l4 σ h
    unfold DX8_copies_3 at h
    refine x_iload (pc := 3) C dX8_copies_3 rfl ?_
    refine x_aload_n (pc := 5) C dX8_copies_5 rfl rfl ?_
    obtain ⟨k, h⟩ := chk_s h
    refine x_alen (pc := 6) C k dX8_copies_6 ?_
    refine x_icmp_ge (pc := 7) (tgt := 49) C dX8_copies_7 (by decide) (fun q => ?_) (fun q => ?_)
    · rw [if_pos q] at h
      exact x_sub (tX8_copies_49 C hr h) (xLe_n (xLe_s (xLe_s (xLe_n (xLe_n xLe_0)))))
    · rw [if_neg q] at h
      refine x_iload_n (pc := 10) C dX8_copies_10 rfl rfl ?_
      refine x_if_eq (pc := 11) (tgt := 30) C dX8_copies_11 (by decide) (fun q => ?_) (fun q => ?_)
      · rw [if_pos q] at h
        refine x_aload_n (pc := 30) C dX8_copies_30 rfl rfl ?_
        obtain ⟨k, h⟩ := chk_s h
        have k2 := k
        obtain ⟨k, h⟩ := chk_s h
        refine x_getR (pc := 31) C fX8_59 rfl k2 k dX8_copies_31 ?_
        refine x_iload_n (pc := 34) C dX8_copies_34 rfl rfl ?_
        refine x_iload (pc := 35) C dX8_copies_35 rfl ?_
        refine x_iadd (pc := 37) C dX8_copies_37 ?_
        refine x_aload_n (pc := 38) C dX8_copies_38 rfl rfl ?_
        refine x_iload (pc := 39) C dX8_copies_39 rfl ?_
        obtain ⟨k, h⟩ := chk_s h
        refine x_iald (pc := 41) C k dX8_copies_41 ?_
        obtain ⟨k, h⟩ := chk_s h
        obtain ⟨σ1, e1, h⟩ := wlet_s h
        refine x_iast (pc := 42) C k dX8_copies_42 (x_eq e1 ?_)
        exact x_sub (tX8_copies_43 C hr ih h) (xLe_s (xLe_s (xLe_s (xLe_s (xLe_s xLe_0)))))
      · rw [if_neg q] at h
        refine x_aload_n (pc := 14) C dX8_copies_14 rfl rfl ?_
        refine x_iload (pc := 15) C dX8_copies_15 rfl ?_
        refine x_aload_n (pc := 17) C dX8_copies_17 rfl rfl ?_
        obtain ⟨k, h⟩ := chk_s h
        have k2 := k
        obtain ⟨k, h⟩ := chk_s h
        refine x_getR (pc := 18) C fX8_59 rfl k2 k dX8_copies_18 ?_
        refine x_iload_n (pc := 21) C dX8_copies_21 rfl rfl ?_
        refine x_iload (pc := 22) C dX8_copies_22 rfl ?_
        refine x_iadd (pc := 24) C dX8_copies_24 ?_
        obtain ⟨k, h⟩ := chk_s h
        refine x_iald (pc := 25) C k dX8_copies_25 ?_
        obtain ⟨k, h⟩ := chk_s h
        obtain ⟨σ2, e1, h⟩ := wlet_s h
        refine x_iast (pc := 26) C k dX8_copies_26 (x_eq e1 ?_)
        refine x_goto (tgt := 43) (pc := 27) C dX8_copies_27 (by decide) ?_
        exact x_sub (tX8_copies_43 C hr ih h) (xLe_s (xLe_s (xLe_s (xLe_s (xLe_s xLe_0)))))
def DX8_copies (l0 : Nat) (l1 : Nat) (l2 : Int32) (l3 : Int32) (σ : Sg) : Option (Int32 × Sg) :=
  DX8_copies_3 FU l0 l1 l2 l3 (0 : Int32) σ
theorem mX8_copies (E : Ev) (l : Launch) {l0 : Nat} {l1 : Nat} {l2 : Int32} {l3 : Int32} {σ : Sg} {r : Int32} {σ' : Sg} (h : DX8_copies l0 l1 l2 l3 σ = some (r, σ')) : Mt E l yX8_copies cX8_copies 5 (some .int) 1 0 0 [.ref (ad E l0), .ref (ad E l1), .int l2, .int l3] σ (some (.int r)) σ' := by
  refine Mt.ofX (by decide) (Nat.le_of_ble_eq_true rfl) (L0 := [some (.ref (ad E l0)), some (.ref (ad E l1)), some (.int l2), some (.int l3), none]) (xEntN_ok [.ref (ad E l0), .ref (ad E l1), .int l2, .int l3] 5) (fun p e s m args below meth c C hr hn => ?_)
  unfold DX8_copies at h
  refine x_iconst (v := 0) (pc := 0) C dX8_copies_0 (by decide) ?_
  refine x_istore (M := [some _, some _, some _, some _, some _]) (pc := 1) C dX8_copies_1 (by decide) rfl ?_
  exact x_sub (tX8_copies_3 C hr FU _ _ _ _ _ _ h) (xLe_s (xLe_s (xLe_s (xLe_s (xLe_s xLe_0)))))
def DX8_keepsTold_97 (l0 : Nat) (l1 : Int32) (σ : Sg) : Option (Unit × Sg) :=
  chk (ckO σ 6 l0) <|
  chk (ckV (gR σ l0 39)) <|
  chk (ckO σ 6 l0) <|
  bnd (DX8_copies l0 (gR σ l0 39) (0 : Int32) l1 σ) fun v1 σ2 =>
  chk (ckO σ2 6 l0) <|
  chk (ckV (gR σ2 l0 12)) <|
  chk (ckO σ2 6 l0) <|
  bnd (DX8_copies l0 (gR σ2 l0 12) v1 l1 σ2) fun v3 σ4 =>
  chk (ckO σ4 6 l0) <|
  chk (ckV (gR σ4 l0 13)) <|
  chk (ckO σ4 6 l0) <|
  bnd (DX8_copies l0 (gR σ4 l0 13) v3 l1 σ4) fun v5 σ6 =>
  chk (ckO σ6 6 l0) <|
  chk (ckV (gR σ6 l0 14)) <|
  chk (ckO σ6 6 l0) <|
  bnd (DX8_copies l0 (gR σ6 l0 14) v5 l1 σ6) fun v7 σ8 =>
  chk (ckO σ8 6 l0) <|
  chk (ckV (gR σ8 l0 15)) <|
  chk (ckO σ8 6 l0) <|
  bnd (DX8_copies l0 (gR σ8 l0 15) v7 l1 σ8) fun v9 σ10 =>
  chk (ckO σ10 6 l0) <|
  chk (ckV (gR σ10 l0 16)) <|
  chk (ckO σ10 6 l0) <|
  bnd (DX8_copies l0 (gR σ10 l0 16) v9 l1 σ10) fun v11 σ12 =>
  chk (ckO σ12 6 l0) <|
  chk (ckV (gR σ12 l0 17)) <|
  chk (ckO σ12 6 l0) <|
  bnd (DX8_copies l0 (gR σ12 l0 17) v11 l1 σ12) fun v13 σ14 =>
  chk (ckO σ14 6 l0) <|
  chk (ckV (gR σ14 l0 18)) <|
  chk (ckO σ14 6 l0) <|
  bnd (DX8_copies l0 (gR σ14 l0 18) v13 l1 σ14) fun v15 σ16 =>
  if l1 = 0 then
    some ((), σ16)
  else
    chk (ckO σ16 6 l0) <|
    chk (ckV (gR σ16 l0 39)) <|
    chk (ckI σ16 (gR σ16 l0 39) (0 : Int32)) <|
    chk (ckO σ16 6 l0) <|
    wlet (pI σ16 l0 3 (aI σ16 (gR σ16 l0 39) (0 : Int32).toNatClampNeg)) fun σ17 =>
    chk (ckO σ17 6 l0) <|
    chk (ckV (gR σ17 l0 39)) <|
    chk (ckI σ17 (gR σ17 l0 39) (1 : Int32)) <|
    chk (ckO σ17 6 l0) <|
    wlet (pI σ17 l0 4 (aI σ17 (gR σ17 l0 39) (1 : Int32).toNatClampNeg)) fun σ18 =>
    chk (ckO σ18 6 l0) <|
    chk (ckV (gR σ18 l0 39)) <|
    chk (ckI σ18 (gR σ18 l0 39) (2 : Int32)) <|
    chk (ckO σ18 6 l0) <|
    wlet (pI σ18 l0 5 (aI σ18 (gR σ18 l0 39) (2 : Int32).toNatClampNeg)) fun σ19 =>
    chk (ckO σ19 6 l0) <|
    chk (ckV (gR σ19 l0 39)) <|
    chk (ckI σ19 (gR σ19 l0 39) (3 : Int32)) <|
    chk (ckO σ19 6 l0) <|
    wlet (pI σ19 l0 6 (aI σ19 (gR σ19 l0 39) (3 : Int32).toNatClampNeg)) fun σ20 =>
    chk (ckO σ20 6 l0) <|
    chk (ckV (gR σ20 l0 39)) <|
    chk (ckI σ20 (gR σ20 l0 39) (4 : Int32)) <|
    chk (ckO σ20 6 l0) <|
    wlet (pI σ20 l0 7 (aI σ20 (gR σ20 l0 39) (4 : Int32).toNatClampNeg)) fun σ21 =>
    chk (ckO σ21 6 l0) <|
    chk (ckV (gR σ21 l0 39)) <|
    chk (ckI σ21 (gR σ21 l0 39) (5 : Int32)) <|
    chk (ckO σ21 6 l0) <|
    wlet (pI σ21 l0 8 (aI σ21 (gR σ21 l0 39) (5 : Int32).toNatClampNeg)) fun σ22 =>
    chk (ckO σ22 6 l0) <|
    chk (ckV (gR σ22 l0 39)) <|
    chk (ckI σ22 (gR σ22 l0 39) (6 : Int32)) <|
    chk (ckO σ22 6 l0) <|
    wlet (pI σ22 l0 9 (aI σ22 (gR σ22 l0 39) (6 : Int32).toNatClampNeg)) fun σ23 =>
    chk (ckO σ23 6 l0) <|
    chk (ckV (gR σ23 l0 39)) <|
    chk (ckI σ23 (gR σ23 l0 39) (7 : Int32)) <|
    chk (ckO σ23 6 l0) <|
    wlet (pI σ23 l0 10 (aI σ23 (gR σ23 l0 39) (7 : Int32).toNatClampNeg)) fun σ24 =>
    chk (ckO σ24 6 l0) <|
    chk (ckV (gR σ24 l0 39)) <|
    chk (ckI σ24 (gR σ24 l0 39) (8 : Int32)) <|
    chk (ckO σ24 6 l0) <|
    wlet (pI σ24 l0 11 (aI σ24 (gR σ24 l0 39) (8 : Int32).toNatClampNeg)) fun σ25 =>
    some ((), σ25)
theorem tX8_keepsTold_97 {r : Unit} {σ' : Sg} (C : Cx E p s m args meth c RX8 cX8_keepsTold 3) (hr : meth.sig.returnType = none) {l0 : Nat} {l1 : Int32} {σ : Sg} (h : DX8_keepsTold_97 l0 l1 σ = some (r, σ')) : Y E p l e (rmA 2 0 0) s m args below meth c none σ' 0 0 3 0 0 σ 97 [some (.ref (ad E l0)), some (.int l1), none] [] := by
  unfold DX8_keepsTold_97 at h
  refine x_aload_n (pc := 97) C dX8_keepsTold_97 rfl rfl ?_
  refine x_aload_n (pc := 98) C dX8_keepsTold_98 rfl rfl ?_
  obtain ⟨k, h⟩ := chk_s h
  have k2 := k
  obtain ⟨k, h⟩ := chk_s h
  refine x_getR (pc := 99) C fX8_62 rfl k2 k dX8_keepsTold_99 ?_
  refine x_iconst (v := 0) (pc := 102) C dX8_keepsTold_102 (by decide) ?_
  refine x_iload_n (pc := 103) C dX8_keepsTold_103 rfl rfl ?_
  obtain ⟨k, h⟩ := chk_s h
  have k2 := k
  obtain ⟨v1, σ2, k, h⟩ := bnd_s h
  refine x_callV1 (pc := 104) C (mX8_copies E l k) cl6 k2 cX8_273 nX8_copies sX8_copies rfl rfl (Nat.le_of_ble_eq_true rfl) ⟨Nat.le_of_ble_eq_true rfl, Nat.le_of_ble_eq_true rfl, Nat.le_of_ble_eq_true rfl, Nat.le_of_ble_eq_true rfl⟩ dX8_keepsTold_104 ?_
  refine x_istore_n (M := [some _, some _, some _]) (pc := 107) C dX8_keepsTold_107 rfl (by decide) rfl ?_
  refine x_aload_n (pc := 108) C dX8_keepsTold_108 rfl rfl ?_
  refine x_aload_n (pc := 109) C dX8_keepsTold_109 rfl rfl ?_
  obtain ⟨k, h⟩ := chk_s h
  have k2 := k
  obtain ⟨k, h⟩ := chk_s h
  refine x_getR (pc := 110) C fX8_13 rfl k2 k dX8_keepsTold_110 ?_
  refine x_iload_n (pc := 113) C dX8_keepsTold_113 rfl rfl ?_
  refine x_iload_n (pc := 114) C dX8_keepsTold_114 rfl rfl ?_
  obtain ⟨k, h⟩ := chk_s h
  have k2 := k
  obtain ⟨v3, σ4, k, h⟩ := bnd_s h
  refine x_callV1 (pc := 115) C (mX8_copies E l k) cl6 k2 cX8_273 nX8_copies sX8_copies rfl rfl (Nat.le_of_ble_eq_true rfl) ⟨Nat.le_of_ble_eq_true rfl, Nat.le_of_ble_eq_true rfl, Nat.le_of_ble_eq_true rfl, Nat.le_of_ble_eq_true rfl⟩ dX8_keepsTold_115 ?_
  refine x_istore_n (M := [some _, some _, some _]) (pc := 118) C dX8_keepsTold_118 rfl (by decide) rfl ?_
  refine x_aload_n (pc := 119) C dX8_keepsTold_119 rfl rfl ?_
  refine x_aload_n (pc := 120) C dX8_keepsTold_120 rfl rfl ?_
  obtain ⟨k, h⟩ := chk_s h
  have k2 := k
  obtain ⟨k, h⟩ := chk_s h
  refine x_getR (pc := 121) C fX8_16 rfl k2 k dX8_keepsTold_121 ?_
  refine x_iload_n (pc := 124) C dX8_keepsTold_124 rfl rfl ?_
  refine x_iload_n (pc := 125) C dX8_keepsTold_125 rfl rfl ?_
  obtain ⟨k, h⟩ := chk_s h
  have k2 := k
  obtain ⟨v5, σ6, k, h⟩ := bnd_s h
  refine x_callV1 (pc := 126) C (mX8_copies E l k) cl6 k2 cX8_273 nX8_copies sX8_copies rfl rfl (Nat.le_of_ble_eq_true rfl) ⟨Nat.le_of_ble_eq_true rfl, Nat.le_of_ble_eq_true rfl, Nat.le_of_ble_eq_true rfl, Nat.le_of_ble_eq_true rfl⟩ dX8_keepsTold_126 ?_
  refine x_istore_n (M := [some _, some _, some _]) (pc := 129) C dX8_keepsTold_129 rfl (by decide) rfl ?_
  refine x_aload_n (pc := 130) C dX8_keepsTold_130 rfl rfl ?_
  refine x_aload_n (pc := 131) C dX8_keepsTold_131 rfl rfl ?_
  obtain ⟨k, h⟩ := chk_s h
  have k2 := k
  obtain ⟨k, h⟩ := chk_s h
  refine x_getR (pc := 132) C fX8_19 rfl k2 k dX8_keepsTold_132 ?_
  refine x_iload_n (pc := 135) C dX8_keepsTold_135 rfl rfl ?_
  refine x_iload_n (pc := 136) C dX8_keepsTold_136 rfl rfl ?_
  obtain ⟨k, h⟩ := chk_s h
  have k2 := k
  obtain ⟨v7, σ8, k, h⟩ := bnd_s h
  refine x_callV1 (pc := 137) C (mX8_copies E l k) cl6 k2 cX8_273 nX8_copies sX8_copies rfl rfl (Nat.le_of_ble_eq_true rfl) ⟨Nat.le_of_ble_eq_true rfl, Nat.le_of_ble_eq_true rfl, Nat.le_of_ble_eq_true rfl, Nat.le_of_ble_eq_true rfl⟩ dX8_keepsTold_137 ?_
  refine x_istore_n (M := [some _, some _, some _]) (pc := 140) C dX8_keepsTold_140 rfl (by decide) rfl ?_
  refine x_aload_n (pc := 141) C dX8_keepsTold_141 rfl rfl ?_
  refine x_aload_n (pc := 142) C dX8_keepsTold_142 rfl rfl ?_
  obtain ⟨k, h⟩ := chk_s h
  have k2 := k
  obtain ⟨k, h⟩ := chk_s h
  refine x_getR (pc := 143) C fX8_22 rfl k2 k dX8_keepsTold_143 ?_
  refine x_iload_n (pc := 146) C dX8_keepsTold_146 rfl rfl ?_
  refine x_iload_n (pc := 147) C dX8_keepsTold_147 rfl rfl ?_
  obtain ⟨k, h⟩ := chk_s h
  have k2 := k
  obtain ⟨v9, σ10, k, h⟩ := bnd_s h
  refine x_callV1 (pc := 148) C (mX8_copies E l k) cl6 k2 cX8_273 nX8_copies sX8_copies rfl rfl (Nat.le_of_ble_eq_true rfl) ⟨Nat.le_of_ble_eq_true rfl, Nat.le_of_ble_eq_true rfl, Nat.le_of_ble_eq_true rfl, Nat.le_of_ble_eq_true rfl⟩ dX8_keepsTold_148 ?_
  refine x_istore_n (M := [some _, some _, some _]) (pc := 151) C dX8_keepsTold_151 rfl (by decide) rfl ?_
  refine x_aload_n (pc := 152) C dX8_keepsTold_152 rfl rfl ?_
  refine x_aload_n (pc := 153) C dX8_keepsTold_153 rfl rfl ?_
  obtain ⟨k, h⟩ := chk_s h
  have k2 := k
  obtain ⟨k, h⟩ := chk_s h
  refine x_getR (pc := 154) C fX8_25 rfl k2 k dX8_keepsTold_154 ?_
  refine x_iload_n (pc := 157) C dX8_keepsTold_157 rfl rfl ?_
  refine x_iload_n (pc := 158) C dX8_keepsTold_158 rfl rfl ?_
  obtain ⟨k, h⟩ := chk_s h
  have k2 := k
  obtain ⟨v11, σ12, k, h⟩ := bnd_s h
  refine x_callV1 (pc := 159) C (mX8_copies E l k) cl6 k2 cX8_273 nX8_copies sX8_copies rfl rfl (Nat.le_of_ble_eq_true rfl) ⟨Nat.le_of_ble_eq_true rfl, Nat.le_of_ble_eq_true rfl, Nat.le_of_ble_eq_true rfl, Nat.le_of_ble_eq_true rfl⟩ dX8_keepsTold_159 ?_
  refine x_istore_n (M := [some _, some _, some _]) (pc := 162) C dX8_keepsTold_162 rfl (by decide) rfl ?_
  refine x_aload_n (pc := 163) C dX8_keepsTold_163 rfl rfl ?_
  refine x_aload_n (pc := 164) C dX8_keepsTold_164 rfl rfl ?_
  obtain ⟨k, h⟩ := chk_s h
  have k2 := k
  obtain ⟨k, h⟩ := chk_s h
  refine x_getR (pc := 165) C fX8_28 rfl k2 k dX8_keepsTold_165 ?_
  refine x_iload_n (pc := 168) C dX8_keepsTold_168 rfl rfl ?_
  refine x_iload_n (pc := 169) C dX8_keepsTold_169 rfl rfl ?_
  obtain ⟨k, h⟩ := chk_s h
  have k2 := k
  obtain ⟨v13, σ14, k, h⟩ := bnd_s h
  refine x_callV1 (pc := 170) C (mX8_copies E l k) cl6 k2 cX8_273 nX8_copies sX8_copies rfl rfl (Nat.le_of_ble_eq_true rfl) ⟨Nat.le_of_ble_eq_true rfl, Nat.le_of_ble_eq_true rfl, Nat.le_of_ble_eq_true rfl, Nat.le_of_ble_eq_true rfl⟩ dX8_keepsTold_170 ?_
  refine x_istore_n (M := [some _, some _, some _]) (pc := 173) C dX8_keepsTold_173 rfl (by decide) rfl ?_
  refine x_aload_n (pc := 174) C dX8_keepsTold_174 rfl rfl ?_
  refine x_aload_n (pc := 175) C dX8_keepsTold_175 rfl rfl ?_
  obtain ⟨k, h⟩ := chk_s h
  have k2 := k
  obtain ⟨k, h⟩ := chk_s h
  refine x_getR (pc := 176) C fX8_31 rfl k2 k dX8_keepsTold_176 ?_
  refine x_iload_n (pc := 179) C dX8_keepsTold_179 rfl rfl ?_
  refine x_iload_n (pc := 180) C dX8_keepsTold_180 rfl rfl ?_
  obtain ⟨k, h⟩ := chk_s h
  have k2 := k
  obtain ⟨v15, σ16, k, h⟩ := bnd_s h
  refine x_callV1 (pc := 181) C (mX8_copies E l k) cl6 k2 cX8_273 nX8_copies sX8_copies rfl rfl (Nat.le_of_ble_eq_true rfl) ⟨Nat.le_of_ble_eq_true rfl, Nat.le_of_ble_eq_true rfl, Nat.le_of_ble_eq_true rfl, Nat.le_of_ble_eq_true rfl⟩ dX8_keepsTold_181 ?_
  refine x_pop (pc := 184) C dX8_keepsTold_184 rfl ?_
  refine x_iload_n (pc := 185) C dX8_keepsTold_185 rfl rfl ?_
  refine x_if_ne (pc := 186) (tgt := 190) C dX8_keepsTold_186 (by decide) (fun q => ?_) (fun q => ?_)
  · rw [if_pos q] at h
    cases h
    exact x_vret C hr dX8_keepsTold_189
  · rw [if_neg q] at h
    refine x_aload_n (pc := 190) C dX8_keepsTold_190 rfl rfl ?_
    refine x_aload_n (pc := 191) C dX8_keepsTold_191 rfl rfl ?_
    obtain ⟨k, h⟩ := chk_s h
    have k2 := k
    obtain ⟨k, h⟩ := chk_s h
    refine x_getR (pc := 192) C fX8_62 rfl k2 k dX8_keepsTold_192 ?_
    refine x_iconst (v := 0) (pc := 195) C dX8_keepsTold_195 (by decide) ?_
    obtain ⟨k, h⟩ := chk_s h
    refine x_iald (pc := 196) C k dX8_keepsTold_196 ?_
    obtain ⟨k, h⟩ := chk_s h
    obtain ⟨σ17, e1, h⟩ := wlet_s h
    refine x_putI (pc := 197) C pX8_182 rfl k dX8_keepsTold_197 (x_eq e1 ?_)
    refine x_aload_n (pc := 200) C dX8_keepsTold_200 rfl rfl ?_
    refine x_aload_n (pc := 201) C dX8_keepsTold_201 rfl rfl ?_
    obtain ⟨k, h⟩ := chk_s h
    have k2 := k
    obtain ⟨k, h⟩ := chk_s h
    refine x_getR (pc := 202) C fX8_62 rfl k2 k dX8_keepsTold_202 ?_
    refine x_iconst (v := 1) (pc := 205) C dX8_keepsTold_205 (by decide) ?_
    obtain ⟨k, h⟩ := chk_s h
    refine x_iald (pc := 206) C k dX8_keepsTold_206 ?_
    obtain ⟨k, h⟩ := chk_s h
    obtain ⟨σ18, e1, h⟩ := wlet_s h
    refine x_putI (pc := 207) C pX8_189 rfl k dX8_keepsTold_207 (x_eq e1 ?_)
    refine x_aload_n (pc := 210) C dX8_keepsTold_210 rfl rfl ?_
    refine x_aload_n (pc := 211) C dX8_keepsTold_211 rfl rfl ?_
    obtain ⟨k, h⟩ := chk_s h
    have k2 := k
    obtain ⟨k, h⟩ := chk_s h
    refine x_getR (pc := 212) C fX8_62 rfl k2 k dX8_keepsTold_212 ?_
    refine x_iconst (v := 2) (pc := 215) C dX8_keepsTold_215 (by decide) ?_
    obtain ⟨k, h⟩ := chk_s h
    refine x_iald (pc := 216) C k dX8_keepsTold_216 ?_
    obtain ⟨k, h⟩ := chk_s h
    obtain ⟨σ19, e1, h⟩ := wlet_s h
    refine x_putI (pc := 217) C pX8_199 rfl k dX8_keepsTold_217 (x_eq e1 ?_)
    refine x_aload_n (pc := 220) C dX8_keepsTold_220 rfl rfl ?_
    refine x_aload_n (pc := 221) C dX8_keepsTold_221 rfl rfl ?_
    obtain ⟨k, h⟩ := chk_s h
    have k2 := k
    obtain ⟨k, h⟩ := chk_s h
    refine x_getR (pc := 222) C fX8_62 rfl k2 k dX8_keepsTold_222 ?_
    refine x_iconst (v := 3) (pc := 225) C dX8_keepsTold_225 (by decide) ?_
    obtain ⟨k, h⟩ := chk_s h
    refine x_iald (pc := 226) C k dX8_keepsTold_226 ?_
    obtain ⟨k, h⟩ := chk_s h
    obtain ⟨σ20, e1, h⟩ := wlet_s h
    refine x_putI (pc := 227) C pX8_220 rfl k dX8_keepsTold_227 (x_eq e1 ?_)
    refine x_aload_n (pc := 230) C dX8_keepsTold_230 rfl rfl ?_
    refine x_aload_n (pc := 231) C dX8_keepsTold_231 rfl rfl ?_
    obtain ⟨k, h⟩ := chk_s h
    have k2 := k
    obtain ⟨k, h⟩ := chk_s h
    refine x_getR (pc := 232) C fX8_62 rfl k2 k dX8_keepsTold_232 ?_
    refine x_iconst (v := 4) (pc := 235) C dX8_keepsTold_235 (by decide) ?_
    obtain ⟨k, h⟩ := chk_s h
    refine x_iald (pc := 236) C k dX8_keepsTold_236 ?_
    obtain ⟨k, h⟩ := chk_s h
    obtain ⟨σ21, e1, h⟩ := wlet_s h
    refine x_putI (pc := 237) C pX8_223 rfl k dX8_keepsTold_237 (x_eq e1 ?_)
    refine x_aload_n (pc := 240) C dX8_keepsTold_240 rfl rfl ?_
    refine x_aload_n (pc := 241) C dX8_keepsTold_241 rfl rfl ?_
    obtain ⟨k, h⟩ := chk_s h
    have k2 := k
    obtain ⟨k, h⟩ := chk_s h
    refine x_getR (pc := 242) C fX8_62 rfl k2 k dX8_keepsTold_242 ?_
    refine x_iconst (v := 5) (pc := 245) C dX8_keepsTold_245 (by decide) ?_
    obtain ⟨k, h⟩ := chk_s h
    refine x_iald (pc := 246) C k dX8_keepsTold_246 ?_
    obtain ⟨k, h⟩ := chk_s h
    obtain ⟨σ22, e1, h⟩ := wlet_s h
    refine x_putI (pc := 247) C pX8_230 rfl k dX8_keepsTold_247 (x_eq e1 ?_)
    refine x_aload_n (pc := 250) C dX8_keepsTold_250 rfl rfl ?_
    refine x_aload_n (pc := 251) C dX8_keepsTold_251 rfl rfl ?_
    obtain ⟨k, h⟩ := chk_s h
    have k2 := k
    obtain ⟨k, h⟩ := chk_s h
    refine x_getR (pc := 252) C fX8_62 rfl k2 k dX8_keepsTold_252 ?_
    refine x_bipush (v := 6) (pc := 255) C dX8_keepsTold_255 (by decide) ?_
    obtain ⟨k, h⟩ := chk_s h
    refine x_iald (pc := 257) C k dX8_keepsTold_257 ?_
    obtain ⟨k, h⟩ := chk_s h
    obtain ⟨σ23, e1, h⟩ := wlet_s h
    refine x_putI (pc := 258) C pX8_192 rfl k dX8_keepsTold_258 (x_eq e1 ?_)
    refine x_aload_n (pc := 261) C dX8_keepsTold_261 rfl rfl ?_
    refine x_aload_n (pc := 262) C dX8_keepsTold_262 rfl rfl ?_
    obtain ⟨k, h⟩ := chk_s h
    have k2 := k
    obtain ⟨k, h⟩ := chk_s h
    refine x_getR (pc := 263) C fX8_62 rfl k2 k dX8_keepsTold_263 ?_
    refine x_bipush (v := 7) (pc := 266) C dX8_keepsTold_266 (by decide) ?_
    obtain ⟨k, h⟩ := chk_s h
    refine x_iald (pc := 268) C k dX8_keepsTold_268 ?_
    obtain ⟨k, h⟩ := chk_s h
    obtain ⟨σ24, e1, h⟩ := wlet_s h
    refine x_putI (pc := 269) C pX8_106 rfl k dX8_keepsTold_269 (x_eq e1 ?_)
    refine x_aload_n (pc := 272) C dX8_keepsTold_272 rfl rfl ?_
    refine x_aload_n (pc := 273) C dX8_keepsTold_273 rfl rfl ?_
    obtain ⟨k, h⟩ := chk_s h
    have k2 := k
    obtain ⟨k, h⟩ := chk_s h
    refine x_getR (pc := 274) C fX8_62 rfl k2 k dX8_keepsTold_274 ?_
    refine x_bipush (v := 8) (pc := 277) C dX8_keepsTold_277 (by decide) ?_
    obtain ⟨k, h⟩ := chk_s h
    refine x_iald (pc := 279) C k dX8_keepsTold_279 ?_
    obtain ⟨k, h⟩ := chk_s h
    obtain ⟨σ25, e1, h⟩ := wlet_s h
    refine x_putI (pc := 280) C pX8_270 rfl k dX8_keepsTold_280 (x_eq e1 ?_)
    cases h
    exact x_vret C hr dX8_keepsTold_283
def DX8_keepsTold (l0 : Nat) (l1 : Int32) (σ : Sg) : Option (Unit × Sg) :=
  if l1 = 0 then
    chk (ckO σ 6 l0) <|
    chk (ckV (gR σ l0 39)) <|
    chk (ckO σ 6 l0) <|
    chk (ckI σ (gR σ l0 39) (0 : Int32)) <|
    wlet (wI σ (gR σ l0 39) (0 : Int32).toNatClampNeg (gI σ l0 3)) fun σ1 =>
    chk (ckO σ1 6 l0) <|
    chk (ckV (gR σ1 l0 39)) <|
    chk (ckO σ1 6 l0) <|
    chk (ckI σ1 (gR σ1 l0 39) (1 : Int32)) <|
    wlet (wI σ1 (gR σ1 l0 39) (1 : Int32).toNatClampNeg (gI σ1 l0 4)) fun σ2 =>
    chk (ckO σ2 6 l0) <|
    chk (ckV (gR σ2 l0 39)) <|
    chk (ckO σ2 6 l0) <|
    chk (ckI σ2 (gR σ2 l0 39) (2 : Int32)) <|
    wlet (wI σ2 (gR σ2 l0 39) (2 : Int32).toNatClampNeg (gI σ2 l0 5)) fun σ3 =>
    chk (ckO σ3 6 l0) <|
    chk (ckV (gR σ3 l0 39)) <|
    chk (ckO σ3 6 l0) <|
    chk (ckI σ3 (gR σ3 l0 39) (3 : Int32)) <|
    wlet (wI σ3 (gR σ3 l0 39) (3 : Int32).toNatClampNeg (gI σ3 l0 6)) fun σ4 =>
    chk (ckO σ4 6 l0) <|
    chk (ckV (gR σ4 l0 39)) <|
    chk (ckO σ4 6 l0) <|
    chk (ckI σ4 (gR σ4 l0 39) (4 : Int32)) <|
    wlet (wI σ4 (gR σ4 l0 39) (4 : Int32).toNatClampNeg (gI σ4 l0 7)) fun σ5 =>
    chk (ckO σ5 6 l0) <|
    chk (ckV (gR σ5 l0 39)) <|
    chk (ckO σ5 6 l0) <|
    chk (ckI σ5 (gR σ5 l0 39) (5 : Int32)) <|
    wlet (wI σ5 (gR σ5 l0 39) (5 : Int32).toNatClampNeg (gI σ5 l0 8)) fun σ6 =>
    chk (ckO σ6 6 l0) <|
    chk (ckV (gR σ6 l0 39)) <|
    chk (ckO σ6 6 l0) <|
    chk (ckI σ6 (gR σ6 l0 39) (6 : Int32)) <|
    wlet (wI σ6 (gR σ6 l0 39) (6 : Int32).toNatClampNeg (gI σ6 l0 9)) fun σ7 =>
    chk (ckO σ7 6 l0) <|
    chk (ckV (gR σ7 l0 39)) <|
    chk (ckO σ7 6 l0) <|
    chk (ckI σ7 (gR σ7 l0 39) (7 : Int32)) <|
    wlet (wI σ7 (gR σ7 l0 39) (7 : Int32).toNatClampNeg (gI σ7 l0 10)) fun σ8 =>
    chk (ckO σ8 6 l0) <|
    chk (ckV (gR σ8 l0 39)) <|
    chk (ckO σ8 6 l0) <|
    chk (ckI σ8 (gR σ8 l0 39) (8 : Int32)) <|
    wlet (wI σ8 (gR σ8 l0 39) (8 : Int32).toNatClampNeg (gI σ8 l0 11)) fun σ9 =>
    DX8_keepsTold_97 l0 l1 σ9
  else
    DX8_keepsTold_97 l0 l1 σ
theorem mX8_keepsTold (E : Ev) (l : Launch) {l0 : Nat} {l1 : Int32} {σ : Sg} {r : Unit} {σ' : Sg} (h : DX8_keepsTold l0 l1 σ = some (r, σ')) : Mt E l yX8_keepsTold cX8_keepsTold 3 none 2 0 0 [.ref (ad E l0), .int l1] σ none σ' := by
  refine Mt.ofX (by decide) (Nat.le_of_ble_eq_true rfl) (L0 := [some (.ref (ad E l0)), some (.int l1), none]) (xEntN_ok [.ref (ad E l0), .int l1] 3) (fun p e s m args below meth c C hr hn => ?_)
  unfold DX8_keepsTold at h
  refine x_iload_n (pc := 0) C dX8_keepsTold_0 rfl rfl ?_
  refine x_if_ne (pc := 1) (tgt := 97) C dX8_keepsTold_1 (by decide) (fun q => ?_) (fun q => ?_)
  · rw [if_pos q] at h
    refine x_aload_n (pc := 4) C dX8_keepsTold_4 rfl rfl ?_
    obtain ⟨k, h⟩ := chk_s h
    have k2 := k
    obtain ⟨k, h⟩ := chk_s h
    refine x_getR (pc := 5) C fX8_62 rfl k2 k dX8_keepsTold_5 ?_
    refine x_iconst (v := 0) (pc := 8) C dX8_keepsTold_8 (by decide) ?_
    refine x_aload_n (pc := 9) C dX8_keepsTold_9 rfl rfl ?_
    obtain ⟨k, h⟩ := chk_s h
    refine x_getI (pc := 10) C fX8_182 rfl k dX8_keepsTold_10 ?_
    obtain ⟨k, h⟩ := chk_s h
    obtain ⟨σ1, e1, h⟩ := wlet_s h
    refine x_iast (pc := 13) C k dX8_keepsTold_13 (x_eq e1 ?_)
    refine x_aload_n (pc := 14) C dX8_keepsTold_14 rfl rfl ?_
    obtain ⟨k, h⟩ := chk_s h
    have k2 := k
    obtain ⟨k, h⟩ := chk_s h
    refine x_getR (pc := 15) C fX8_62 rfl k2 k dX8_keepsTold_15 ?_
    refine x_iconst (v := 1) (pc := 18) C dX8_keepsTold_18 (by decide) ?_
    refine x_aload_n (pc := 19) C dX8_keepsTold_19 rfl rfl ?_
    obtain ⟨k, h⟩ := chk_s h
    refine x_getI (pc := 20) C fX8_189 rfl k dX8_keepsTold_20 ?_
    obtain ⟨k, h⟩ := chk_s h
    obtain ⟨σ2, e1, h⟩ := wlet_s h
    refine x_iast (pc := 23) C k dX8_keepsTold_23 (x_eq e1 ?_)
    refine x_aload_n (pc := 24) C dX8_keepsTold_24 rfl rfl ?_
    obtain ⟨k, h⟩ := chk_s h
    have k2 := k
    obtain ⟨k, h⟩ := chk_s h
    refine x_getR (pc := 25) C fX8_62 rfl k2 k dX8_keepsTold_25 ?_
    refine x_iconst (v := 2) (pc := 28) C dX8_keepsTold_28 (by decide) ?_
    refine x_aload_n (pc := 29) C dX8_keepsTold_29 rfl rfl ?_
    obtain ⟨k, h⟩ := chk_s h
    refine x_getI (pc := 30) C fX8_199 rfl k dX8_keepsTold_30 ?_
    obtain ⟨k, h⟩ := chk_s h
    obtain ⟨σ3, e1, h⟩ := wlet_s h
    refine x_iast (pc := 33) C k dX8_keepsTold_33 (x_eq e1 ?_)
    refine x_aload_n (pc := 34) C dX8_keepsTold_34 rfl rfl ?_
    obtain ⟨k, h⟩ := chk_s h
    have k2 := k
    obtain ⟨k, h⟩ := chk_s h
    refine x_getR (pc := 35) C fX8_62 rfl k2 k dX8_keepsTold_35 ?_
    refine x_iconst (v := 3) (pc := 38) C dX8_keepsTold_38 (by decide) ?_
    refine x_aload_n (pc := 39) C dX8_keepsTold_39 rfl rfl ?_
    obtain ⟨k, h⟩ := chk_s h
    refine x_getI (pc := 40) C fX8_220 rfl k dX8_keepsTold_40 ?_
    obtain ⟨k, h⟩ := chk_s h
    obtain ⟨σ4, e1, h⟩ := wlet_s h
    refine x_iast (pc := 43) C k dX8_keepsTold_43 (x_eq e1 ?_)
    refine x_aload_n (pc := 44) C dX8_keepsTold_44 rfl rfl ?_
    obtain ⟨k, h⟩ := chk_s h
    have k2 := k
    obtain ⟨k, h⟩ := chk_s h
    refine x_getR (pc := 45) C fX8_62 rfl k2 k dX8_keepsTold_45 ?_
    refine x_iconst (v := 4) (pc := 48) C dX8_keepsTold_48 (by decide) ?_
    refine x_aload_n (pc := 49) C dX8_keepsTold_49 rfl rfl ?_
    obtain ⟨k, h⟩ := chk_s h
    refine x_getI (pc := 50) C fX8_223 rfl k dX8_keepsTold_50 ?_
    obtain ⟨k, h⟩ := chk_s h
    obtain ⟨σ5, e1, h⟩ := wlet_s h
    refine x_iast (pc := 53) C k dX8_keepsTold_53 (x_eq e1 ?_)
    refine x_aload_n (pc := 54) C dX8_keepsTold_54 rfl rfl ?_
    obtain ⟨k, h⟩ := chk_s h
    have k2 := k
    obtain ⟨k, h⟩ := chk_s h
    refine x_getR (pc := 55) C fX8_62 rfl k2 k dX8_keepsTold_55 ?_
    refine x_iconst (v := 5) (pc := 58) C dX8_keepsTold_58 (by decide) ?_
    refine x_aload_n (pc := 59) C dX8_keepsTold_59 rfl rfl ?_
    obtain ⟨k, h⟩ := chk_s h
    refine x_getI (pc := 60) C fX8_230 rfl k dX8_keepsTold_60 ?_
    obtain ⟨k, h⟩ := chk_s h
    obtain ⟨σ6, e1, h⟩ := wlet_s h
    refine x_iast (pc := 63) C k dX8_keepsTold_63 (x_eq e1 ?_)
    refine x_aload_n (pc := 64) C dX8_keepsTold_64 rfl rfl ?_
    obtain ⟨k, h⟩ := chk_s h
    have k2 := k
    obtain ⟨k, h⟩ := chk_s h
    refine x_getR (pc := 65) C fX8_62 rfl k2 k dX8_keepsTold_65 ?_
    refine x_bipush (v := 6) (pc := 68) C dX8_keepsTold_68 (by decide) ?_
    refine x_aload_n (pc := 70) C dX8_keepsTold_70 rfl rfl ?_
    obtain ⟨k, h⟩ := chk_s h
    refine x_getI (pc := 71) C fX8_192 rfl k dX8_keepsTold_71 ?_
    obtain ⟨k, h⟩ := chk_s h
    obtain ⟨σ7, e1, h⟩ := wlet_s h
    refine x_iast (pc := 74) C k dX8_keepsTold_74 (x_eq e1 ?_)
    refine x_aload_n (pc := 75) C dX8_keepsTold_75 rfl rfl ?_
    obtain ⟨k, h⟩ := chk_s h
    have k2 := k
    obtain ⟨k, h⟩ := chk_s h
    refine x_getR (pc := 76) C fX8_62 rfl k2 k dX8_keepsTold_76 ?_
    refine x_bipush (v := 7) (pc := 79) C dX8_keepsTold_79 (by decide) ?_
    refine x_aload_n (pc := 81) C dX8_keepsTold_81 rfl rfl ?_
    obtain ⟨k, h⟩ := chk_s h
    refine x_getI (pc := 82) C fX8_106 rfl k dX8_keepsTold_82 ?_
    obtain ⟨k, h⟩ := chk_s h
    obtain ⟨σ8, e1, h⟩ := wlet_s h
    refine x_iast (pc := 85) C k dX8_keepsTold_85 (x_eq e1 ?_)
    refine x_aload_n (pc := 86) C dX8_keepsTold_86 rfl rfl ?_
    obtain ⟨k, h⟩ := chk_s h
    have k2 := k
    obtain ⟨k, h⟩ := chk_s h
    refine x_getR (pc := 87) C fX8_62 rfl k2 k dX8_keepsTold_87 ?_
    refine x_bipush (v := 8) (pc := 90) C dX8_keepsTold_90 (by decide) ?_
    refine x_aload_n (pc := 92) C dX8_keepsTold_92 rfl rfl ?_
    obtain ⟨k, h⟩ := chk_s h
    refine x_getI (pc := 93) C fX8_270 rfl k dX8_keepsTold_93 ?_
    obtain ⟨k, h⟩ := chk_s h
    obtain ⟨σ9, e1, h⟩ := wlet_s h
    refine x_iast (pc := 96) C k dX8_keepsTold_96 (x_eq e1 ?_)
    exact x_sub (tX8_keepsTold_97 C hr h) (xLe_s (xLe_s (xLe_n xLe_0)))
  · rw [if_neg q] at h
    exact x_sub (tX8_keepsTold_97 C hr h) (xLe_s (xLe_s (xLe_n xLe_0)))
def DX8_text_17 (σ : Sg) : Option (Int32 × Sg) :=
  some ((-2 : Int32), σ)
theorem tX8_text_17 {r : Int32} {σ' : Sg} (C : Cx E p s m args meth c RX8 cX8_text 3) (hr : meth.sig.returnType = (some .int)) {σ : Sg} (h : DX8_text_17  σ = some (r, σ')) : Y E p l e (rmA 12 0 0) s m args below meth c (some (.int r)) σ' 0 0 3 0 0 σ 17 [none, none, none] [] := by
  unfold DX8_text_17 at h
  refine x_bipush (v := -2) (pc := 17) C dX8_text_17 (by decide) ?_
  cases h
  exact x_iret C hr dX8_text_19
def DX8_text_201 (K173 : Nat → Int32 → Sg → Option (Int32 × Sg)) (l0 : Nat) (l2 : Int32) (s0 : Nat) (s1 : Int32) (s2 : Int32) (σ : Sg) : Option (Int32 × Sg) :=
  chk (ckI σ s0 s1) <|
  wlet (wI σ s0 s1.toNatClampNeg s2) fun σ1 =>
  K173 l0 (l2 + (1 : Int32)) σ1
theorem tX8_text_201 {r : Int32} {σ' : Sg} (C : Cx E p s m args meth c RX8 cX8_text 3) (hr : meth.sig.returnType = (some .int)) {K173 : Nat → Int32 → Sg → Option (Int32 × Sg)} (hK173 : ∀ (l0 : Nat) (l2 : Int32) (σ : Sg), K173 l0 l2 σ = some (r, σ') → Y E p l e (rmA 12 0 0) s m args below meth c (some (.int r)) σ' 0 0 3 0 0 σ 173 [some (.ref (ad E l0)), none, some (.int l2)] []) {l0 : Nat} {l2 : Int32} {s0 : Nat} {s1 : Int32} {s2 : Int32} {σ : Sg} (h : DX8_text_201 K173 l0 l2 s0 s1 s2 σ = some (r, σ')) : Y E p l e (rmA 12 0 0) s m args below meth c (some (.int r)) σ' 0 0 3 0 0 σ 201 [some (.ref (ad E l0)), none, some (.int l2)] [.int s2, .int s1, .ref (ad E s0)] := by
  unfold DX8_text_201 at h
  obtain ⟨k, h⟩ := chk_s h
  obtain ⟨σ1, e1, h⟩ := wlet_s h
  refine x_iast (pc := 201) C k dX8_text_201 (x_eq e1 ?_)
  refine x_iinc (v := 1) (M := [some _, none, some _]) (pc := 202) C dX8_text_202 rfl (by decide) (by decide) rfl ?_
  refine x_goto (tgt := 173) (pc := 205) C dX8_text_205 (by decide) ?_
  exact x_sub (hK173 _ _ _ h) (xLe_s (xLe_n (xLe_s xLe_0)))
def DX8_text_208 (l0 : Nat) (σ : Sg) : Option (Int32 × Sg) :=
  chk (ckO σ 6 l0) <|
  wlet (pI σ l0 22 (0 : Int32)) fun σ1 =>
  chk (ckO σ1 6 l0) <|
  some ((gI σ1 l0 11), σ1)
theorem tX8_text_208 {r : Int32} {σ' : Sg} (C : Cx E p s m args meth c RX8 cX8_text 3) (hr : meth.sig.returnType = (some .int)) {l0 : Nat} {σ : Sg} (h : DX8_text_208 l0 σ = some (r, σ')) : Y E p l e (rmA 12 0 0) s m args below meth c (some (.int r)) σ' 0 0 3 0 0 σ 208 [some (.ref (ad E l0)), none, none] [] := by
  unfold DX8_text_208 at h
  refine x_aload_n (pc := 208) C dX8_text_208 rfl rfl ?_
  refine x_iconst (v := 0) (pc := 209) C dX8_text_209 (by decide) ?_
  obtain ⟨k, h⟩ := chk_s h
  obtain ⟨σ1, e1, h⟩ := wlet_s h
  refine x_putI (pc := 210) C pX8_287 rfl k dX8_text_210 (x_eq e1 ?_)
  refine x_aload_n (pc := 213) C dX8_text_213 rfl rfl ?_
  obtain ⟨k, h⟩ := chk_s h
  refine x_getI (pc := 214) C fX8_270 rfl k dX8_text_214 ?_
  cases h
  exact x_iret C hr dX8_text_217
def DX8_text_173 : Nat → Nat → Int32 → Sg → Option (Int32 × Sg)
  | 0, _, _, _ => none
  | n + 1, l0, l2, σ =>
    if (242 : Int32) ≤ l2 then
      DX8_text_208 l0 σ
    else
      chk (ckO σ 6 l0) <|
      chk (ckV (gR σ l0 20)) <|
      if (64 : Int32) ≤ l2 then
        DX8_text_201 (DX8_text_173 n) l0 l2 (gR σ l0 20) l2 (0 : Int32) σ
      else
        chk (ckO σ 6 l0) <|
        chk (ckV (gR σ l0 37)) <|
        chk (ckI σ (gR σ l0 37) l2) <|
        DX8_text_201 (DX8_text_173 n) l0 l2 (gR σ l0 20) l2 (aI σ (gR σ l0 37) l2.toNatClampNeg) σ
theorem tX8_text_173 {r : Int32} {σ' : Sg} (C : Cx E p s m args meth c RX8 cX8_text 3) (hr : meth.sig.returnType = (some .int)) : ∀ (n : Nat) (l0 : Nat) (l2 : Int32) (σ : Sg) (h : DX8_text_173 n l0 l2 σ = some (r, σ')), Y E p l e (rmA 12 0 0) s m args below meth c (some (.int r)) σ' 0 0 3 0 0 σ 173 [some (.ref (ad E l0)), none, some (.int l2)] [] := by
  intro n
  induction n with
  | zero => intro l0 l2 σ h; cases h
  | succ n ih =>
    intro l0 l2 σ h
    unfold DX8_text_173 at h
    refine x_iload_n (pc := 173) C dX8_text_173 rfl rfl ?_
    refine x_sipush (v := 242) (pc := 174) C dX8_text_174 (by decide) ?_
    refine x_icmp_ge (pc := 177) (tgt := 208) C dX8_text_177 (by decide) (fun q => ?_) (fun q => ?_)
    · rw [if_pos q] at h
      exact x_sub (tX8_text_208 C hr h) (xLe_s (xLe_n (xLe_n xLe_0)))
    · rw [if_neg q] at h
      refine x_aload_n (pc := 180) C dX8_text_180 rfl rfl ?_
      obtain ⟨k, h⟩ := chk_s h
      have k2 := k
      obtain ⟨k, h⟩ := chk_s h
      refine x_getR (pc := 181) C fX8_37 rfl k2 k dX8_text_181 ?_
      refine x_iload_n (pc := 184) C dX8_text_184 rfl rfl ?_
      refine x_iload_n (pc := 185) C dX8_text_185 rfl rfl ?_
      refine x_bipush (v := 64) (pc := 186) C dX8_text_186 (by decide) ?_
      refine x_icmp_ge (pc := 188) (tgt := 200) C dX8_text_188 (by decide) (fun q => ?_) (fun q => ?_)
      · rw [if_pos q] at h
        refine x_iconst (v := 0) (pc := 200) C dX8_text_200 (by decide) ?_
        exact x_sub (tX8_text_201 C hr ih h) (xLe_s (xLe_n (xLe_s xLe_0)))
      · rw [if_neg q] at h
        refine x_aload_n (pc := 191) C dX8_text_191 rfl rfl ?_
        obtain ⟨k, h⟩ := chk_s h
        have k2 := k
        obtain ⟨k, h⟩ := chk_s h
        refine x_getR (pc := 192) C fX8_56 rfl k2 k dX8_text_192 ?_
        refine x_iload_n (pc := 195) C dX8_text_195 rfl rfl ?_
        obtain ⟨k, h⟩ := chk_s h
        refine x_iald (pc := 196) C k dX8_text_196 ?_
        refine x_goto (tgt := 201) (pc := 197) C dX8_text_197 (by decide) ?_
        exact x_sub (tX8_text_201 C hr ih h) (xLe_s (xLe_n (xLe_s xLe_0)))
def DX8_text_146 (l0 : Nat) (s0 : Nat) (s1 : Int32) (σ : Sg) : Option (Int32 × Sg) :=
  chk (ckO σ 6 s0) <|
  wlet (pI σ s0 32 s1) fun σ1 =>
  chk (ckO σ1 6 l0) <|
  if (gI σ1 l0 29) = 0 then
    chk (ckO σ1 6 l0) <|
    bnd (DX8_laysMiles l0 σ1) fun _ σ2 =>
    DX8_text_173 FU l0 (0 : Int32) σ2
  else
    chk (ckO σ1 6 l0) <|
    bnd (DX8_keepsTold l0 (1 : Int32) σ1) fun _ σ3 =>
    chk (ckO σ3 6 l0) <|
    bnd (DX8_laysMiles l0 σ3) fun _ σ4 =>
    some ((-1 : Int32), σ4)
theorem tX8_text_146 {r : Int32} {σ' : Sg} (C : Cx E p s m args meth c RX8 cX8_text 3) (hr : meth.sig.returnType = (some .int)) {l0 : Nat} {s0 : Nat} {s1 : Int32} {σ : Sg} (h : DX8_text_146 l0 s0 s1 σ = some (r, σ')) : Y E p l e (rmA 12 0 0) s m args below meth c (some (.int r)) σ' 0 0 3 0 0 σ 146 [some (.ref (ad E l0)), none, none] [.int s1, .ref (ad E s0)] := by
  unfold DX8_text_146 at h
  obtain ⟨k, h⟩ := chk_s h
  obtain ⟨σ1, e1, h⟩ := wlet_s h
  refine x_putI (pc := 146) C pX8_43 rfl k dX8_text_146 (x_eq e1 ?_)
  refine x_aload_n (pc := 149) C dX8_text_149 rfl rfl ?_
  obtain ⟨k, h⟩ := chk_s h
  refine x_getI (pc := 150) C fX8_162 rfl k dX8_text_150 ?_
  refine x_if_eq (pc := 153) (tgt := 167) C dX8_text_153 (by decide) (fun q => ?_) (fun q => ?_)
  · rw [if_pos q] at h
    refine x_aload_n (pc := 167) C dX8_text_167 rfl rfl ?_
    obtain ⟨k, h⟩ := chk_s h
    have k2 := k
    obtain ⟨u0, σ2, k, h⟩ := bnd_s h
    refine x_callV0 (pc := 168) C (mX8_laysMiles E l k) cl6 k2 cX8_109 nX8_laysMiles sX8_laysMiles rfl rfl (Nat.le_of_ble_eq_true rfl) ⟨Nat.le_of_ble_eq_true rfl, Nat.le_of_ble_eq_true rfl, Nat.le_of_ble_eq_true rfl, Nat.le_of_ble_eq_true rfl⟩ dX8_text_168 ?_
    refine x_iconst (v := 0) (pc := 171) C dX8_text_171 (by decide) ?_
    refine x_istore_n (M := [some _, none, some _]) (pc := 172) C dX8_text_172 rfl (by decide) rfl ?_
    exact x_sub (tX8_text_173 C hr FU _ _ _ h) (xLe_s (xLe_n (xLe_s xLe_0)))
  · rw [if_neg q] at h
    refine x_aload_n (pc := 156) C dX8_text_156 rfl rfl ?_
    refine x_iconst (v := 1) (pc := 157) C dX8_text_157 (by decide) ?_
    obtain ⟨k, h⟩ := chk_s h
    have k2 := k
    obtain ⟨u0, σ3, k, h⟩ := bnd_s h
    refine x_callV0 (pc := 158) C (mX8_keepsTold E l k) cl6 k2 cX8_277 nX8_keepsTold sX8_keepsTold rfl rfl (Nat.le_of_ble_eq_true rfl) ⟨Nat.le_of_ble_eq_true rfl, Nat.le_of_ble_eq_true rfl, Nat.le_of_ble_eq_true rfl, Nat.le_of_ble_eq_true rfl⟩ dX8_text_158 ?_
    refine x_aload_n (pc := 161) C dX8_text_161 rfl rfl ?_
    obtain ⟨k, h⟩ := chk_s h
    have k2 := k
    obtain ⟨u0, σ4, k, h⟩ := bnd_s h
    refine x_callV0 (pc := 162) C (mX8_laysMiles E l k) cl6 k2 cX8_109 nX8_laysMiles sX8_laysMiles rfl rfl (Nat.le_of_ble_eq_true rfl) ⟨Nat.le_of_ble_eq_true rfl, Nat.le_of_ble_eq_true rfl, Nat.le_of_ble_eq_true rfl, Nat.le_of_ble_eq_true rfl⟩ dX8_text_162 ?_
    refine x_iconst (v := -1) (pc := 165) C dX8_text_165 (by decide) ?_
    cases h
    exact x_iret C hr dX8_text_166
def DX8_text_117 (l0 : Nat) (σ : Sg) : Option (Int32 × Sg) :=
  chk (ckO σ 6 l0) <|
  wlet (pI σ l0 2 (0 : Int32)) fun σ1 =>
  chk (ckO σ1 6 l0) <|
  chk (ckO σ1 6 l0) <|
  wlet (pI σ1 l0 31 (gI σ1 l0 29)) fun σ2 =>
  chk (ckO σ2 6 l0) <|
  if (gI σ2 l0 29) = 0 then
    DX8_text_146 l0 l0 (-1 : Int32) σ2
  else
    chk (ckO σ2 6 l0) <|
    DX8_text_146 l0 l0 (gI σ2 l0 30) σ2
theorem tX8_text_117 {r : Int32} {σ' : Sg} (C : Cx E p s m args meth c RX8 cX8_text 3) (hr : meth.sig.returnType = (some .int)) {l0 : Nat} {σ : Sg} (h : DX8_text_117 l0 σ = some (r, σ')) : Y E p l e (rmA 12 0 0) s m args below meth c (some (.int r)) σ' 0 0 3 0 0 σ 117 [some (.ref (ad E l0)), none, none] [] := by
  unfold DX8_text_117 at h
  refine x_aload_n (pc := 117) C dX8_text_117 rfl rfl ?_
  refine x_iconst (v := 0) (pc := 118) C dX8_text_118 (by decide) ?_
  obtain ⟨k, h⟩ := chk_s h
  obtain ⟨σ1, e1, h⟩ := wlet_s h
  refine x_putI (pc := 119) C pX8_115 rfl k dX8_text_119 (x_eq e1 ?_)
  refine x_aload_n (pc := 122) C dX8_text_122 rfl rfl ?_
  refine x_aload_n (pc := 123) C dX8_text_123 rfl rfl ?_
  obtain ⟨k, h⟩ := chk_s h
  refine x_getI (pc := 124) C fX8_162 rfl k dX8_text_124 ?_
  obtain ⟨k, h⟩ := chk_s h
  obtain ⟨σ2, e1, h⟩ := wlet_s h
  refine x_putI (pc := 127) C pX8_284 rfl k dX8_text_127 (x_eq e1 ?_)
  refine x_aload_n (pc := 130) C dX8_text_130 rfl rfl ?_
  refine x_aload_n (pc := 131) C dX8_text_131 rfl rfl ?_
  obtain ⟨k, h⟩ := chk_s h
  refine x_getI (pc := 132) C fX8_162 rfl k dX8_text_132 ?_
  refine x_if_ne (pc := 135) (tgt := 142) C dX8_text_135 (by decide) (fun q => ?_) (fun q => ?_)
  · rw [if_pos q] at h
    refine x_iconst (v := -1) (pc := 138) C dX8_text_138 (by decide) ?_
    refine x_goto (tgt := 146) (pc := 139) C dX8_text_139 (by decide) ?_
    exact x_sub (tX8_text_146 C hr h) (xLe_s (xLe_n (xLe_n xLe_0)))
  · rw [if_neg q] at h
    refine x_aload_n (pc := 142) C dX8_text_142 rfl rfl ?_
    obtain ⟨k, h⟩ := chk_s h
    refine x_getI (pc := 143) C fX8_165 rfl k dX8_text_143 ?_
    exact x_sub (tX8_text_146 C hr h) (xLe_s (xLe_n (xLe_n xLe_0)))
def DX8_text_95 : Nat → Nat → Sg → Option (Int32 × Sg)
  | 0, _, _ => none
  | n + 1, l0, σ =>
    chk (ckO σ 6 l0) <|
    if (gI σ l0 29) = 0 then
      chk (ckO σ 6 l0) <|
      if (gI σ l0 26) = (3 : Int32) then
        DX8_text_117 l0 σ
      else
        chk (ckO σ 6 l0) <|
        bnd (DX8_readLine l0 σ) fun _ σ1 =>
        DX8_text_95 n l0 σ1
    else
      DX8_text_117 l0 σ
theorem tX8_text_95 {r : Int32} {σ' : Sg} (C : Cx E p s m args meth c RX8 cX8_text 3) (hr : meth.sig.returnType = (some .int)) : ∀ (n : Nat) (l0 : Nat) (σ : Sg) (h : DX8_text_95 n l0 σ = some (r, σ')), Y E p l e (rmA 12 0 0) s m args below meth c (some (.int r)) σ' 0 0 3 0 0 σ 95 [some (.ref (ad E l0)), none, none] [] := by
  intro n
  induction n with
  | zero => intro l0 σ h; cases h
  | succ n ih =>
    intro l0 σ h
    unfold DX8_text_95 at h
    refine x_aload_n (pc := 95) C dX8_text_95 rfl rfl ?_
    obtain ⟨k, h⟩ := chk_s h
    refine x_getI (pc := 96) C fX8_162 rfl k dX8_text_96 ?_
    refine x_if_ne (pc := 99) (tgt := 117) C dX8_text_99 (by decide) (fun q => ?_) (fun q => ?_)
    · rw [if_pos q] at h
      refine x_aload_n (pc := 102) C dX8_text_102 rfl rfl ?_
      obtain ⟨k, h⟩ := chk_s h
      refine x_getI (pc := 103) C fX8_131 rfl k dX8_text_103 ?_
      refine x_iconst (v := 3) (pc := 106) C dX8_text_106 (by decide) ?_
      refine x_icmp_eq (pc := 107) (tgt := 117) C dX8_text_107 (by decide) (fun q => ?_) (fun q => ?_)
      · rw [if_pos q] at h
        exact x_sub (tX8_text_117 C hr h) (xLe_s (xLe_n (xLe_n xLe_0)))
      · rw [if_neg q] at h
        refine x_aload_n (pc := 110) C dX8_text_110 rfl rfl ?_
        obtain ⟨k, h⟩ := chk_s h
        have k2 := k
        obtain ⟨u0, σ1, k, h⟩ := bnd_s h
        refine x_callV0 (pc := 111) C (mX8_readLine E l k) cl6 k2 cX8_281 nX8_readLine sX8_readLine rfl rfl (Nat.le_of_ble_eq_true rfl) ⟨Nat.le_of_ble_eq_true rfl, Nat.le_of_ble_eq_true rfl, Nat.le_of_ble_eq_true rfl, Nat.le_of_ble_eq_true rfl⟩ dX8_text_111 ?_
        refine x_goto (tgt := 95) (pc := 114) C dX8_text_114 (by decide) ?_
        exact x_sub (ih _ _ h) (xLe_s (xLe_n (xLe_n xLe_0)))
    · rw [if_neg q] at h
      exact x_sub (tX8_text_117 C hr h) (xLe_s (xLe_n (xLe_n xLe_0)))
def DX8_text (l0 : Nat) (l1 : Int32) (σ : Sg) : Option (Int32 × Sg) :=
  chk (ckO σ 6 l0) <|
  wlet (pI σ l0 0 (0 : Int32)) fun σ1 =>
  if l1 < 0 then
    DX8_text_17 σ1
  else
    chk (ckO σ1 6 l0) <|
    if l1 ≤ (gI σ1 l0 2) then
      chk (ckO σ1 6 l0) <|
      bnd (DX8_keepsTold l0 (0 : Int32) σ1) fun _ σ2 =>
      chk (ckO σ2 6 l0) <|
      wlet (pI σ2 l0 3 (0 : Int32)) fun σ3 =>
      chk (ckO σ3 6 l0) <|
      wlet (pI σ3 l0 4 (0 : Int32)) fun σ4 =>
      chk (ckO σ4 6 l0) <|
      wlet (pI σ4 l0 5 (0 : Int32)) fun σ5 =>
      chk (ckO σ5 6 l0) <|
      wlet (pI σ5 l0 6 (0 : Int32)) fun σ6 =>
      chk (ckO σ6 6 l0) <|
      wlet (pI σ6 l0 7 (0 : Int32)) fun σ7 =>
      chk (ckO σ7 6 l0) <|
      wlet (pI σ7 l0 8 (0 : Int32)) fun σ8 =>
      chk (ckO σ8 6 l0) <|
      wlet (pI σ8 l0 9 (0 : Int32)) fun σ9 =>
      chk (ckO σ9 6 l0) <|
      wlet (pI σ9 l0 11 (0 : Int32)) fun σ10 =>
      chk (ckO σ10 6 l0) <|
      wlet (pI σ10 l0 10 (10 : Int32)) fun σ11 =>
      chk (ckO σ11 6 l0) <|
      chk (ck01 (0 : Int32)) <|
      wlet (pI σ11 l0 33 (0 : Int32)) fun σ12 =>
      chk (ckO σ12 6 l0) <|
      wlet (pI σ12 l0 23 l1) fun σ13 =>
      chk (ckO σ13 6 l0) <|
      wlet (pI σ13 l0 24 (0 : Int32)) fun σ14 =>
      chk (ckO σ14 6 l0) <|
      wlet (pI σ14 l0 29 (0 : Int32)) fun σ15 =>
      chk (ckO σ15 6 l0) <|
      bnd (DX8_token l0 σ15) fun _ σ16 =>
      DX8_text_95 FU l0 σ16
    else
      DX8_text_17 σ1
theorem mX8_text (E : Ev) (l : Launch) {l0 : Nat} {l1 : Int32} {σ : Sg} {r : Int32} {σ' : Sg} (h : DX8_text l0 l1 σ = some (r, σ')) : Mt E l yX8_text cX8_text 3 (some .int) 12 0 0 [.ref (ad E l0), .int l1] σ (some (.int r)) σ' := by
  refine Mt.ofX (by decide) (Nat.le_of_ble_eq_true rfl) (L0 := [some (.ref (ad E l0)), some (.int l1), none]) (xEntN_ok [.ref (ad E l0), .int l1] 3) (fun p e s m args below meth c C hr hn => ?_)
  unfold DX8_text at h
  refine x_aload_n (pc := 0) C dX8_text_0 rfl rfl ?_
  refine x_iconst (v := 0) (pc := 1) C dX8_text_1 (by decide) ?_
  obtain ⟨k, h⟩ := chk_s h
  obtain ⟨σ1, e1, h⟩ := wlet_s h
  refine x_putI (pc := 2) C pX8_112 rfl k dX8_text_2 (x_eq e1 ?_)
  refine x_iload_n (pc := 5) C dX8_text_5 rfl rfl ?_
  refine x_if_lt (pc := 6) (tgt := 17) C dX8_text_6 (by decide) (fun q => ?_) (fun q => ?_)
  · rw [if_pos q] at h
    exact x_sub (tX8_text_17 C hr h) (xLe_n (xLe_n (xLe_n xLe_0)))
  · rw [if_neg q] at h
    refine x_iload_n (pc := 9) C dX8_text_9 rfl rfl ?_
    refine x_aload_n (pc := 10) C dX8_text_10 rfl rfl ?_
    obtain ⟨k, h⟩ := chk_s h
    refine x_getI (pc := 11) C fX8_115 rfl k dX8_text_11 ?_
    refine x_icmp_le (pc := 14) (tgt := 20) C dX8_text_14 (by decide) (fun q => ?_) (fun q => ?_)
    · rw [if_pos q] at h
      refine x_aload_n (pc := 20) C dX8_text_20 rfl rfl ?_
      refine x_iconst (v := 0) (pc := 21) C dX8_text_21 (by decide) ?_
      obtain ⟨k, h⟩ := chk_s h
      have k2 := k
      obtain ⟨u0, σ2, k, h⟩ := bnd_s h
      refine x_callV0 (pc := 22) C (mX8_keepsTold E l k) cl6 k2 cX8_277 nX8_keepsTold sX8_keepsTold rfl rfl (Nat.le_of_ble_eq_true rfl) ⟨Nat.le_of_ble_eq_true rfl, Nat.le_of_ble_eq_true rfl, Nat.le_of_ble_eq_true rfl, Nat.le_of_ble_eq_true rfl⟩ dX8_text_22 ?_
      refine x_aload_n (pc := 25) C dX8_text_25 rfl rfl ?_
      refine x_iconst (v := 0) (pc := 26) C dX8_text_26 (by decide) ?_
      obtain ⟨k, h⟩ := chk_s h
      obtain ⟨σ3, e1, h⟩ := wlet_s h
      refine x_putI (pc := 27) C pX8_182 rfl k dX8_text_27 (x_eq e1 ?_)
      refine x_aload_n (pc := 30) C dX8_text_30 rfl rfl ?_
      refine x_iconst (v := 0) (pc := 31) C dX8_text_31 (by decide) ?_
      obtain ⟨k, h⟩ := chk_s h
      obtain ⟨σ4, e1, h⟩ := wlet_s h
      refine x_putI (pc := 32) C pX8_189 rfl k dX8_text_32 (x_eq e1 ?_)
      refine x_aload_n (pc := 35) C dX8_text_35 rfl rfl ?_
      refine x_iconst (v := 0) (pc := 36) C dX8_text_36 (by decide) ?_
      obtain ⟨k, h⟩ := chk_s h
      obtain ⟨σ5, e1, h⟩ := wlet_s h
      refine x_putI (pc := 37) C pX8_199 rfl k dX8_text_37 (x_eq e1 ?_)
      refine x_aload_n (pc := 40) C dX8_text_40 rfl rfl ?_
      refine x_iconst (v := 0) (pc := 41) C dX8_text_41 (by decide) ?_
      obtain ⟨k, h⟩ := chk_s h
      obtain ⟨σ6, e1, h⟩ := wlet_s h
      refine x_putI (pc := 42) C pX8_220 rfl k dX8_text_42 (x_eq e1 ?_)
      refine x_aload_n (pc := 45) C dX8_text_45 rfl rfl ?_
      refine x_iconst (v := 0) (pc := 46) C dX8_text_46 (by decide) ?_
      obtain ⟨k, h⟩ := chk_s h
      obtain ⟨σ7, e1, h⟩ := wlet_s h
      refine x_putI (pc := 47) C pX8_223 rfl k dX8_text_47 (x_eq e1 ?_)
      refine x_aload_n (pc := 50) C dX8_text_50 rfl rfl ?_
      refine x_iconst (v := 0) (pc := 51) C dX8_text_51 (by decide) ?_
      obtain ⟨k, h⟩ := chk_s h
      obtain ⟨σ8, e1, h⟩ := wlet_s h
      refine x_putI (pc := 52) C pX8_230 rfl k dX8_text_52 (x_eq e1 ?_)
      refine x_aload_n (pc := 55) C dX8_text_55 rfl rfl ?_
      refine x_iconst (v := 0) (pc := 56) C dX8_text_56 (by decide) ?_
      obtain ⟨k, h⟩ := chk_s h
      obtain ⟨σ9, e1, h⟩ := wlet_s h
      refine x_putI (pc := 57) C pX8_192 rfl k dX8_text_57 (x_eq e1 ?_)
      refine x_aload_n (pc := 60) C dX8_text_60 rfl rfl ?_
      refine x_iconst (v := 0) (pc := 61) C dX8_text_61 (by decide) ?_
      obtain ⟨k, h⟩ := chk_s h
      obtain ⟨σ10, e1, h⟩ := wlet_s h
      refine x_putI (pc := 62) C pX8_270 rfl k dX8_text_62 (x_eq e1 ?_)
      refine x_aload_n (pc := 65) C dX8_text_65 rfl rfl ?_
      refine x_bipush (v := 10) (pc := 66) C dX8_text_66 (by decide) ?_
      obtain ⟨k, h⟩ := chk_s h
      obtain ⟨σ11, e1, h⟩ := wlet_s h
      refine x_putI (pc := 68) C pX8_106 rfl k dX8_text_68 (x_eq e1 ?_)
      refine x_aload_n (pc := 71) C dX8_text_71 rfl rfl ?_
      refine x_iconst (v := 0) (pc := 72) C dX8_text_72 (by decide) ?_
      obtain ⟨k, h⟩ := chk_s h
      have k2 := k
      obtain ⟨k, h⟩ := chk_s h
      obtain ⟨σ12, e1, h⟩ := wlet_s h
      refine x_putZ (pc := 73) C pX8_237 rfl k2 k dX8_text_73 (x_eq e1 ?_)
      refine x_aload_n (pc := 76) C dX8_text_76 rfl rfl ?_
      refine x_iload_n (pc := 77) C dX8_text_77 rfl rfl ?_
      obtain ⟨k, h⟩ := chk_s h
      obtain ⟨σ13, e1, h⟩ := wlet_s h
      refine x_putI (pc := 78) C pX8_121 rfl k dX8_text_78 (x_eq e1 ?_)
      refine x_aload_n (pc := 81) C dX8_text_81 rfl rfl ?_
      refine x_iconst (v := 0) (pc := 82) C dX8_text_82 (by decide) ?_
      obtain ⟨k, h⟩ := chk_s h
      obtain ⟨σ14, e1, h⟩ := wlet_s h
      refine x_putI (pc := 83) C pX8_118 rfl k dX8_text_83 (x_eq e1 ?_)
      refine x_aload_n (pc := 86) C dX8_text_86 rfl rfl ?_
      refine x_iconst (v := 0) (pc := 87) C dX8_text_87 (by decide) ?_
      obtain ⟨k, h⟩ := chk_s h
      obtain ⟨σ15, e1, h⟩ := wlet_s h
      refine x_putI (pc := 88) C pX8_162 rfl k dX8_text_88 (x_eq e1 ?_)
      refine x_aload_n (pc := 91) C dX8_text_91 rfl rfl ?_
      obtain ⟨k, h⟩ := chk_s h
      have k2 := k
      obtain ⟨u0, σ16, k, h⟩ := bnd_s h
      refine x_callV0 (pc := 92) C (mX8_token E l k) cl6 k2 cX8_168 nX8_token sX8_token rfl rfl (Nat.le_of_ble_eq_true rfl) ⟨Nat.le_of_ble_eq_true rfl, Nat.le_of_ble_eq_true rfl, Nat.le_of_ble_eq_true rfl, Nat.le_of_ble_eq_true rfl⟩ dX8_text_92 ?_
      exact x_sub (tX8_text_95 C hr FU _ _ h) (xLe_s (xLe_n (xLe_n xLe_0)))
    · rw [if_neg q] at h
      exact x_sub (tX8_text_17 C hr h) (xLe_n (xLe_n (xLe_n xLe_0)))
def DX8_fault_29 (s0 : Int32) (σ : Sg) : Option (Int32 × Sg) :=
  some (s0, σ)
theorem tX8_fault_29 {r : Int32} {σ' : Sg} (C : Cx E p s m args meth c RX8 cX8_fault 2) (hr : meth.sig.returnType = (some .int)) {s0 : Int32} {σ : Sg} (h : DX8_fault_29 s0 σ = some (r, σ')) : Y E p l e (rmA 1 0 0) s m args below meth c (some (.int r)) σ' 0 0 2 0 0 σ 29 [none, none] [.int s0] := by
  unfold DX8_fault_29 at h
  cases h
  exact x_iret C hr dX8_fault_29
def DX8_fault (l0 : Nat) (l1 : Int32) (σ : Sg) : Option (Int32 × Sg) :=
  chk (ckO σ 6 l0) <|
  wlet (pI σ l0 0 (0 : Int32)) fun σ1 =>
  if l1 = 0 then
    chk (ckO σ1 6 l0) <|
    DX8_fault_29 (gI σ1 l0 31) σ1
  else
    if l1 = (1 : Int32) then
      chk (ckO σ1 6 l0) <|
      DX8_fault_29 (gI σ1 l0 32) σ1
    else
      DX8_fault_29 (-1 : Int32) σ1
theorem mX8_fault (E : Ev) (l : Launch) {l0 : Nat} {l1 : Int32} {σ : Sg} {r : Int32} {σ' : Sg} (h : DX8_fault l0 l1 σ = some (r, σ')) : Mt E l yX8_fault cX8_fault 2 (some .int) 1 0 0 [.ref (ad E l0), .int l1] σ (some (.int r)) σ' := by
  refine Mt.ofX (by decide) (Nat.le_of_ble_eq_true rfl) (L0 := [some (.ref (ad E l0)), some (.int l1)]) (xEntN_ok [.ref (ad E l0), .int l1] 2) (fun p e s m args below meth c C hr hn => ?_)
  unfold DX8_fault at h
  refine x_aload_n (pc := 0) C dX8_fault_0 rfl rfl ?_
  refine x_iconst (v := 0) (pc := 1) C dX8_fault_1 (by decide) ?_
  obtain ⟨k, h⟩ := chk_s h
  obtain ⟨σ1, e1, h⟩ := wlet_s h
  refine x_putI (pc := 2) C pX8_112 rfl k dX8_fault_2 (x_eq e1 ?_)
  refine x_iload_n (pc := 5) C dX8_fault_5 rfl rfl ?_
  refine x_if_ne (pc := 6) (tgt := 16) C dX8_fault_6 (by decide) (fun q => ?_) (fun q => ?_)
  · rw [if_pos q] at h
    refine x_aload_n (pc := 9) C dX8_fault_9 rfl rfl ?_
    obtain ⟨k, h⟩ := chk_s h
    refine x_getI (pc := 10) C fX8_284 rfl k dX8_fault_10 ?_
    refine x_goto (tgt := 29) (pc := 13) C dX8_fault_13 (by decide) ?_
    exact x_sub (tX8_fault_29 C hr h) (xLe_n (xLe_n xLe_0))
  · rw [if_neg q] at h
    refine x_iload_n (pc := 16) C dX8_fault_16 rfl rfl ?_
    refine x_iconst (v := 1) (pc := 17) C dX8_fault_17 (by decide) ?_
    refine x_icmp_ne (pc := 18) (tgt := 28) C dX8_fault_18 (by decide) (fun q => ?_) (fun q => ?_)
    · rw [if_pos q] at h
      refine x_aload_n (pc := 21) C dX8_fault_21 rfl rfl ?_
      obtain ⟨k, h⟩ := chk_s h
      refine x_getI (pc := 22) C fX8_43 rfl k dX8_fault_22 ?_
      refine x_goto (tgt := 29) (pc := 25) C dX8_fault_25 (by decide) ?_
      exact x_sub (tX8_fault_29 C hr h) (xLe_n (xLe_n xLe_0))
    · rw [if_neg q] at h
      refine x_iconst (v := -1) (pc := 28) C dX8_fault_28 (by decide) ?_
      exact x_sub (tX8_fault_29 C hr h) (xLe_n (xLe_n xLe_0))
def DX8_isPlace_17 (s0 : Int32) (σ : Sg) : Option (Int32 × Sg) :=
  chk (ck01 s0) <|
  some (s0, σ)
theorem tX8_isPlace_17 {r : Int32} {σ' : Sg} (C : Cx E p s m args meth c RX8 cX8_isPlace 2) (hr : meth.sig.returnType = (some .boolean)) {s0 : Int32} {σ : Sg} (h : DX8_isPlace_17 s0 σ = some (r, σ')) : Y E p l e (rmA 1 0 0) s m args below meth c (some (.int r)) σ' 0 0 2 0 0 σ 17 [none, none] [.int s0] := by
  unfold DX8_isPlace_17 at h
  obtain ⟨kz, h⟩ := chk_s h
  cases h
  exact x_zret C hr (nar_01 kz) dX8_isPlace_17
def DX8_isPlace_16 (σ : Sg) : Option (Int32 × Sg) :=
  DX8_isPlace_17 (0 : Int32) σ
theorem tX8_isPlace_16 {r : Int32} {σ' : Sg} (C : Cx E p s m args meth c RX8 cX8_isPlace 2) (hr : meth.sig.returnType = (some .boolean)) {σ : Sg} (h : DX8_isPlace_16  σ = some (r, σ')) : Y E p l e (rmA 1 0 0) s m args below meth c (some (.int r)) σ' 0 0 2 0 0 σ 16 [none, none] [] := by
  unfold DX8_isPlace_16 at h
  refine x_iconst (v := 0) (pc := 16) C dX8_isPlace_16 (by decide) ?_
  exact x_sub (tX8_isPlace_17 C hr h) (xLe_n (xLe_n xLe_0))
def DX8_isPlace (l0 : Nat) (l1 : Int32) (σ : Sg) : Option (Int32 × Sg) :=
  if l1 < 0 then
    DX8_isPlace_16 σ
  else
    chk (ckO σ 6 l0) <|
    if (gI σ l0 3) ≤ l1 then
      DX8_isPlace_16 σ
    else
      DX8_isPlace_17 (1 : Int32) σ
theorem mX8_isPlace (E : Ev) (l : Launch) {l0 : Nat} {l1 : Int32} {σ : Sg} {r : Int32} {σ' : Sg} (h : DX8_isPlace l0 l1 σ = some (r, σ')) : Mt E l yX8_isPlace cX8_isPlace 2 (some .boolean) 1 0 0 [.ref (ad E l0), .int l1] σ (some (.int r)) σ' := by
  refine Mt.ofX (by decide) (Nat.le_of_ble_eq_true rfl) (L0 := [some (.ref (ad E l0)), some (.int l1)]) (xEntN_ok [.ref (ad E l0), .int l1] 2) (fun p e s m args below meth c C hr hn => ?_)
  unfold DX8_isPlace at h
  refine x_iload_n (pc := 0) C dX8_isPlace_0 rfl rfl ?_
  refine x_if_lt (pc := 1) (tgt := 16) C dX8_isPlace_1 (by decide) (fun q => ?_) (fun q => ?_)
  · rw [if_pos q] at h
    exact x_sub (tX8_isPlace_16 C hr h) (xLe_n (xLe_n xLe_0))
  · rw [if_neg q] at h
    refine x_iload_n (pc := 4) C dX8_isPlace_4 rfl rfl ?_
    refine x_aload_n (pc := 5) C dX8_isPlace_5 rfl rfl ?_
    obtain ⟨k, h⟩ := chk_s h
    refine x_getI (pc := 6) C fX8_182 rfl k dX8_isPlace_6 ?_
    refine x_icmp_ge (pc := 9) (tgt := 16) C dX8_isPlace_9 (by decide) (fun q => ?_) (fun q => ?_)
    · rw [if_pos q] at h
      exact x_sub (tX8_isPlace_16 C hr h) (xLe_n (xLe_n xLe_0))
    · rw [if_neg q] at h
      refine x_iconst (v := 1) (pc := 12) C dX8_isPlace_12 (by decide) ?_
      refine x_goto (tgt := 17) (pc := 13) C dX8_isPlace_13 (by decide) ?_
      exact x_sub (tX8_isPlace_17 C hr h) (xLe_n (xLe_n xLe_0))
def DX8_isCarrier_17 (s0 : Int32) (σ : Sg) : Option (Int32 × Sg) :=
  chk (ck01 s0) <|
  some (s0, σ)
theorem tX8_isCarrier_17 {r : Int32} {σ' : Sg} (C : Cx E p s m args meth c RX8 cX8_isCarrier 2) (hr : meth.sig.returnType = (some .boolean)) {s0 : Int32} {σ : Sg} (h : DX8_isCarrier_17 s0 σ = some (r, σ')) : Y E p l e (rmA 1 0 0) s m args below meth c (some (.int r)) σ' 0 0 2 0 0 σ 17 [none, none] [.int s0] := by
  unfold DX8_isCarrier_17 at h
  obtain ⟨kz, h⟩ := chk_s h
  cases h
  exact x_zret C hr (nar_01 kz) dX8_isCarrier_17
def DX8_isCarrier_16 (σ : Sg) : Option (Int32 × Sg) :=
  DX8_isCarrier_17 (0 : Int32) σ
theorem tX8_isCarrier_16 {r : Int32} {σ' : Sg} (C : Cx E p s m args meth c RX8 cX8_isCarrier 2) (hr : meth.sig.returnType = (some .boolean)) {σ : Sg} (h : DX8_isCarrier_16  σ = some (r, σ')) : Y E p l e (rmA 1 0 0) s m args below meth c (some (.int r)) σ' 0 0 2 0 0 σ 16 [none, none] [] := by
  unfold DX8_isCarrier_16 at h
  refine x_iconst (v := 0) (pc := 16) C dX8_isCarrier_16 (by decide) ?_
  exact x_sub (tX8_isCarrier_17 C hr h) (xLe_n (xLe_n xLe_0))
def DX8_isCarrier (l0 : Nat) (l1 : Int32) (σ : Sg) : Option (Int32 × Sg) :=
  if l1 < 0 then
    DX8_isCarrier_16 σ
  else
    chk (ckO σ 6 l0) <|
    if (gI σ l0 4) ≤ l1 then
      DX8_isCarrier_16 σ
    else
      DX8_isCarrier_17 (1 : Int32) σ
theorem mX8_isCarrier (E : Ev) (l : Launch) {l0 : Nat} {l1 : Int32} {σ : Sg} {r : Int32} {σ' : Sg} (h : DX8_isCarrier l0 l1 σ = some (r, σ')) : Mt E l yX8_isCarrier cX8_isCarrier 2 (some .boolean) 1 0 0 [.ref (ad E l0), .int l1] σ (some (.int r)) σ' := by
  refine Mt.ofX (by decide) (Nat.le_of_ble_eq_true rfl) (L0 := [some (.ref (ad E l0)), some (.int l1)]) (xEntN_ok [.ref (ad E l0), .int l1] 2) (fun p e s m args below meth c C hr hn => ?_)
  unfold DX8_isCarrier at h
  refine x_iload_n (pc := 0) C dX8_isCarrier_0 rfl rfl ?_
  refine x_if_lt (pc := 1) (tgt := 16) C dX8_isCarrier_1 (by decide) (fun q => ?_) (fun q => ?_)
  · rw [if_pos q] at h
    exact x_sub (tX8_isCarrier_16 C hr h) (xLe_n (xLe_n xLe_0))
  · rw [if_neg q] at h
    refine x_iload_n (pc := 4) C dX8_isCarrier_4 rfl rfl ?_
    refine x_aload_n (pc := 5) C dX8_isCarrier_5 rfl rfl ?_
    obtain ⟨k, h⟩ := chk_s h
    refine x_getI (pc := 6) C fX8_189 rfl k dX8_isCarrier_6 ?_
    refine x_icmp_ge (pc := 9) (tgt := 16) C dX8_isCarrier_9 (by decide) (fun q => ?_) (fun q => ?_)
    · rw [if_pos q] at h
      exact x_sub (tX8_isCarrier_16 C hr h) (xLe_n (xLe_n xLe_0))
    · rw [if_neg q] at h
      refine x_iconst (v := 1) (pc := 12) C dX8_isCarrier_12 (by decide) ?_
      refine x_goto (tgt := 17) (pc := 13) C dX8_isCarrier_13 (by decide) ?_
      exact x_sub (tX8_isCarrier_17 C hr h) (xLe_n (xLe_n xLe_0))
def DX8_isProviso_17 (s0 : Int32) (σ : Sg) : Option (Int32 × Sg) :=
  chk (ck01 s0) <|
  some (s0, σ)
theorem tX8_isProviso_17 {r : Int32} {σ' : Sg} (C : Cx E p s m args meth c RX8 cX8_isProviso 2) (hr : meth.sig.returnType = (some .boolean)) {s0 : Int32} {σ : Sg} (h : DX8_isProviso_17 s0 σ = some (r, σ')) : Y E p l e (rmA 1 0 0) s m args below meth c (some (.int r)) σ' 0 0 2 0 0 σ 17 [none, none] [.int s0] := by
  unfold DX8_isProviso_17 at h
  obtain ⟨kz, h⟩ := chk_s h
  cases h
  exact x_zret C hr (nar_01 kz) dX8_isProviso_17
def DX8_isProviso_16 (σ : Sg) : Option (Int32 × Sg) :=
  DX8_isProviso_17 (0 : Int32) σ
theorem tX8_isProviso_16 {r : Int32} {σ' : Sg} (C : Cx E p s m args meth c RX8 cX8_isProviso 2) (hr : meth.sig.returnType = (some .boolean)) {σ : Sg} (h : DX8_isProviso_16  σ = some (r, σ')) : Y E p l e (rmA 1 0 0) s m args below meth c (some (.int r)) σ' 0 0 2 0 0 σ 16 [none, none] [] := by
  unfold DX8_isProviso_16 at h
  refine x_iconst (v := 0) (pc := 16) C dX8_isProviso_16 (by decide) ?_
  exact x_sub (tX8_isProviso_17 C hr h) (xLe_n (xLe_n xLe_0))
def DX8_isProviso (l0 : Nat) (l1 : Int32) (σ : Sg) : Option (Int32 × Sg) :=
  if l1 < 0 then
    DX8_isProviso_16 σ
  else
    chk (ckO σ 6 l0) <|
    if (gI σ l0 7) ≤ l1 then
      DX8_isProviso_16 σ
    else
      DX8_isProviso_17 (1 : Int32) σ
theorem mX8_isProviso (E : Ev) (l : Launch) {l0 : Nat} {l1 : Int32} {σ : Sg} {r : Int32} {σ' : Sg} (h : DX8_isProviso l0 l1 σ = some (r, σ')) : Mt E l yX8_isProviso cX8_isProviso 2 (some .boolean) 1 0 0 [.ref (ad E l0), .int l1] σ (some (.int r)) σ' := by
  refine Mt.ofX (by decide) (Nat.le_of_ble_eq_true rfl) (L0 := [some (.ref (ad E l0)), some (.int l1)]) (xEntN_ok [.ref (ad E l0), .int l1] 2) (fun p e s m args below meth c C hr hn => ?_)
  unfold DX8_isProviso at h
  refine x_iload_n (pc := 0) C dX8_isProviso_0 rfl rfl ?_
  refine x_if_lt (pc := 1) (tgt := 16) C dX8_isProviso_1 (by decide) (fun q => ?_) (fun q => ?_)
  · rw [if_pos q] at h
    exact x_sub (tX8_isProviso_16 C hr h) (xLe_n (xLe_n xLe_0))
  · rw [if_neg q] at h
    refine x_iload_n (pc := 4) C dX8_isProviso_4 rfl rfl ?_
    refine x_aload_n (pc := 5) C dX8_isProviso_5 rfl rfl ?_
    obtain ⟨k, h⟩ := chk_s h
    refine x_getI (pc := 6) C fX8_223 rfl k dX8_isProviso_6 ?_
    refine x_icmp_ge (pc := 9) (tgt := 16) C dX8_isProviso_9 (by decide) (fun q => ?_) (fun q => ?_)
    · rw [if_pos q] at h
      exact x_sub (tX8_isProviso_16 C hr h) (xLe_n (xLe_n xLe_0))
    · rw [if_neg q] at h
      refine x_iconst (v := 1) (pc := 12) C dX8_isProviso_12 (by decide) ?_
      refine x_goto (tgt := 17) (pc := 13) C dX8_isProviso_13 (by decide) ?_
      exact x_sub (tX8_isProviso_17 C hr h) (xLe_n (xLe_n xLe_0))
def DX8_isTicket_17 (s0 : Int32) (σ : Sg) : Option (Int32 × Sg) :=
  chk (ck01 s0) <|
  some (s0, σ)
theorem tX8_isTicket_17 {r : Int32} {σ' : Sg} (C : Cx E p s m args meth c RX8 cX8_isTicket 2) (hr : meth.sig.returnType = (some .boolean)) {s0 : Int32} {σ : Sg} (h : DX8_isTicket_17 s0 σ = some (r, σ')) : Y E p l e (rmA 1 0 0) s m args below meth c (some (.int r)) σ' 0 0 2 0 0 σ 17 [none, none] [.int s0] := by
  unfold DX8_isTicket_17 at h
  obtain ⟨kz, h⟩ := chk_s h
  cases h
  exact x_zret C hr (nar_01 kz) dX8_isTicket_17
def DX8_isTicket_16 (σ : Sg) : Option (Int32 × Sg) :=
  DX8_isTicket_17 (0 : Int32) σ
theorem tX8_isTicket_16 {r : Int32} {σ' : Sg} (C : Cx E p s m args meth c RX8 cX8_isTicket 2) (hr : meth.sig.returnType = (some .boolean)) {σ : Sg} (h : DX8_isTicket_16  σ = some (r, σ')) : Y E p l e (rmA 1 0 0) s m args below meth c (some (.int r)) σ' 0 0 2 0 0 σ 16 [none, none] [] := by
  unfold DX8_isTicket_16 at h
  refine x_iconst (v := 0) (pc := 16) C dX8_isTicket_16 (by decide) ?_
  exact x_sub (tX8_isTicket_17 C hr h) (xLe_n (xLe_n xLe_0))
def DX8_isTicket (l0 : Nat) (l1 : Int32) (σ : Sg) : Option (Int32 × Sg) :=
  if l1 < 0 then
    DX8_isTicket_16 σ
  else
    chk (ckO σ 6 l0) <|
    if (gI σ l0 9) ≤ l1 then
      DX8_isTicket_16 σ
    else
      DX8_isTicket_17 (1 : Int32) σ
theorem mX8_isTicket (E : Ev) (l : Launch) {l0 : Nat} {l1 : Int32} {σ : Sg} {r : Int32} {σ' : Sg} (h : DX8_isTicket l0 l1 σ = some (r, σ')) : Mt E l yX8_isTicket cX8_isTicket 2 (some .boolean) 1 0 0 [.ref (ad E l0), .int l1] σ (some (.int r)) σ' := by
  refine Mt.ofX (by decide) (Nat.le_of_ble_eq_true rfl) (L0 := [some (.ref (ad E l0)), some (.int l1)]) (xEntN_ok [.ref (ad E l0), .int l1] 2) (fun p e s m args below meth c C hr hn => ?_)
  unfold DX8_isTicket at h
  refine x_iload_n (pc := 0) C dX8_isTicket_0 rfl rfl ?_
  refine x_if_lt (pc := 1) (tgt := 16) C dX8_isTicket_1 (by decide) (fun q => ?_) (fun q => ?_)
  · rw [if_pos q] at h
    exact x_sub (tX8_isTicket_16 C hr h) (xLe_n (xLe_n xLe_0))
  · rw [if_neg q] at h
    refine x_iload_n (pc := 4) C dX8_isTicket_4 rfl rfl ?_
    refine x_aload_n (pc := 5) C dX8_isTicket_5 rfl rfl ?_
    obtain ⟨k, h⟩ := chk_s h
    refine x_getI (pc := 6) C fX8_192 rfl k dX8_isTicket_6 ?_
    refine x_icmp_ge (pc := 9) (tgt := 16) C dX8_isTicket_9 (by decide) (fun q => ?_) (fun q => ?_)
    · rw [if_pos q] at h
      exact x_sub (tX8_isTicket_16 C hr h) (xLe_n (xLe_n xLe_0))
    · rw [if_neg q] at h
      refine x_iconst (v := 1) (pc := 12) C dX8_isTicket_12 (by decide) ?_
      refine x_goto (tgt := 17) (pc := 13) C dX8_isTicket_13 (by decide) ?_
      exact x_sub (tX8_isTicket_17 C hr h) (xLe_n (xLe_n xLe_0))
def DX8_couponsOf (l0 : Nat) (l1 : Int32) (σ : Sg) : Option (Int32 × Sg) :=
  chk (ckO σ 6 l0) <|
  chk (ckV (gR σ l0 16)) <|
  chk (ckI σ (gR σ l0 16) (((4 : Int32) * l1) + (2 : Int32))) <|
  some ((aI σ (gR σ l0 16) (((4 : Int32) * l1) + (2 : Int32)).toNatClampNeg), σ)
theorem mX8_couponsOf (E : Ev) (l : Launch) {l0 : Nat} {l1 : Int32} {σ : Sg} {r : Int32} {σ' : Sg} (h : DX8_couponsOf l0 l1 σ = some (r, σ')) : Mt E l yX8_couponsOf cX8_couponsOf 2 (some .int) 1 0 0 [.ref (ad E l0), .int l1] σ (some (.int r)) σ' := by
  refine Mt.ofX (by decide) (Nat.le_of_ble_eq_true rfl) (L0 := [some (.ref (ad E l0)), some (.int l1)]) (xEntN_ok [.ref (ad E l0), .int l1] 2) (fun p e s m args below meth c C hr hn => ?_)
  unfold DX8_couponsOf at h
  refine x_aload_n (pc := 0) C dX8_couponsOf_0 rfl rfl ?_
  obtain ⟨k, h⟩ := chk_s h
  have k2 := k
  obtain ⟨k, h⟩ := chk_s h
  refine x_getR (pc := 1) C fX8_25 rfl k2 k dX8_couponsOf_1 ?_
  refine x_iconst (v := 4) (pc := 4) C dX8_couponsOf_4 (by decide) ?_
  refine x_iload_n (pc := 5) C dX8_couponsOf_5 rfl rfl ?_
  refine x_imul (pc := 6) C dX8_couponsOf_6 ?_
  refine x_iconst (v := 2) (pc := 7) C dX8_couponsOf_7 (by decide) ?_
  refine x_iadd (pc := 8) C dX8_couponsOf_8 ?_
  obtain ⟨k, h⟩ := chk_s h
  refine x_iald (pc := 9) C k dX8_couponsOf_9 ?_
  cases h
  exact x_iret C hr dX8_couponsOf_10
def DX8_isCoupon_26 (s0 : Int32) (σ : Sg) : Option (Int32 × Sg) :=
  chk (ck01 s0) <|
  some (s0, σ)
theorem tX8_isCoupon_26 {r : Int32} {σ' : Sg} (C : Cx E p s m args meth c RX8 cX8_isCoupon 3) (hr : meth.sig.returnType = (some .boolean)) {s0 : Int32} {σ : Sg} (h : DX8_isCoupon_26 s0 σ = some (r, σ')) : Y E p l e (rmA 2 0 0) s m args below meth c (some (.int r)) σ' 0 0 3 0 0 σ 26 [none, none, none] [.int s0] := by
  unfold DX8_isCoupon_26 at h
  obtain ⟨kz, h⟩ := chk_s h
  cases h
  exact x_zret C hr (nar_01 kz) dX8_isCoupon_26
def DX8_isCoupon_25 (σ : Sg) : Option (Int32 × Sg) :=
  DX8_isCoupon_26 (0 : Int32) σ
theorem tX8_isCoupon_25 {r : Int32} {σ' : Sg} (C : Cx E p s m args meth c RX8 cX8_isCoupon 3) (hr : meth.sig.returnType = (some .boolean)) {σ : Sg} (h : DX8_isCoupon_25  σ = some (r, σ')) : Y E p l e (rmA 2 0 0) s m args below meth c (some (.int r)) σ' 0 0 3 0 0 σ 25 [none, none, none] [] := by
  unfold DX8_isCoupon_25 at h
  refine x_iconst (v := 0) (pc := 25) C dX8_isCoupon_25 (by decide) ?_
  exact x_sub (tX8_isCoupon_26 C hr h) (xLe_n (xLe_n (xLe_n xLe_0)))
def DX8_isCoupon (l0 : Nat) (l1 : Int32) (l2 : Int32) (σ : Sg) : Option (Int32 × Sg) :=
  chk (ckO σ 6 l0) <|
  bnd (DX8_isTicket l0 l1 σ) fun v1 σ2 =>
  if v1 = 0 then
    DX8_isCoupon_25 σ2
  else
    if l2 < 0 then
      DX8_isCoupon_25 σ2
    else
      chk (ckO σ2 6 l0) <|
      bnd (DX8_couponsOf l0 l1 σ2) fun v3 σ4 =>
      if v3 ≤ l2 then
        DX8_isCoupon_25 σ4
      else
        DX8_isCoupon_26 (1 : Int32) σ4
theorem mX8_isCoupon (E : Ev) (l : Launch) {l0 : Nat} {l1 : Int32} {l2 : Int32} {σ : Sg} {r : Int32} {σ' : Sg} (h : DX8_isCoupon l0 l1 l2 σ = some (r, σ')) : Mt E l yX8_isCoupon cX8_isCoupon 3 (some .boolean) 2 0 0 [.ref (ad E l0), .int l1, .int l2] σ (some (.int r)) σ' := by
  refine Mt.ofX (by decide) (Nat.le_of_ble_eq_true rfl) (L0 := [some (.ref (ad E l0)), some (.int l1), some (.int l2)]) (xEntN_ok [.ref (ad E l0), .int l1, .int l2] 3) (fun p e s m args below meth c C hr hn => ?_)
  unfold DX8_isCoupon at h
  refine x_aload_n (pc := 0) C dX8_isCoupon_0 rfl rfl ?_
  refine x_iload_n (pc := 1) C dX8_isCoupon_1 rfl rfl ?_
  obtain ⟨k, h⟩ := chk_s h
  have k2 := k
  obtain ⟨v1, σ2, k, h⟩ := bnd_s h
  refine x_callV1 (pc := 2) C (mX8_isTicket E l k) cl6 k2 cX8_298 nX8_isTicket sX8_isTicket rfl rfl (Nat.le_of_ble_eq_true rfl) ⟨Nat.le_of_ble_eq_true rfl, Nat.le_of_ble_eq_true rfl, Nat.le_of_ble_eq_true rfl, Nat.le_of_ble_eq_true rfl⟩ dX8_isCoupon_2 ?_
  refine x_if_eq (pc := 5) (tgt := 25) C dX8_isCoupon_5 (by decide) (fun q => ?_) (fun q => ?_)
  · rw [if_pos q] at h
    exact x_sub (tX8_isCoupon_25 C hr h) (xLe_n (xLe_n (xLe_n xLe_0)))
  · rw [if_neg q] at h
    refine x_iload_n (pc := 8) C dX8_isCoupon_8 rfl rfl ?_
    refine x_if_lt (pc := 9) (tgt := 25) C dX8_isCoupon_9 (by decide) (fun q => ?_) (fun q => ?_)
    · rw [if_pos q] at h
      exact x_sub (tX8_isCoupon_25 C hr h) (xLe_n (xLe_n (xLe_n xLe_0)))
    · rw [if_neg q] at h
      refine x_iload_n (pc := 12) C dX8_isCoupon_12 rfl rfl ?_
      refine x_aload_n (pc := 13) C dX8_isCoupon_13 rfl rfl ?_
      refine x_iload_n (pc := 14) C dX8_isCoupon_14 rfl rfl ?_
      obtain ⟨k, h⟩ := chk_s h
      have k2 := k
      obtain ⟨v3, σ4, k, h⟩ := bnd_s h
      refine x_callV1 (pc := 15) C (mX8_couponsOf E l k) cl6 k2 cX8_301 nX8_couponsOf sX8_couponsOf rfl rfl (Nat.le_of_ble_eq_true rfl) ⟨Nat.le_of_ble_eq_true rfl, Nat.le_of_ble_eq_true rfl, Nat.le_of_ble_eq_true rfl, Nat.le_of_ble_eq_true rfl⟩ dX8_isCoupon_15 ?_
      refine x_icmp_ge (pc := 18) (tgt := 25) C dX8_isCoupon_18 (by decide) (fun q => ?_) (fun q => ?_)
      · rw [if_pos q] at h
        exact x_sub (tX8_isCoupon_25 C hr h) (xLe_n (xLe_n (xLe_n xLe_0)))
      · rw [if_neg q] at h
        refine x_iconst (v := 1) (pc := 21) C dX8_isCoupon_21 (by decide) ?_
        refine x_goto (tgt := 26) (pc := 22) C dX8_isCoupon_22 (by decide) ?_
        exact x_sub (tX8_isCoupon_26 C hr h) (xLe_n (xLe_n (xLe_n xLe_0)))
def DX8_milesOf (l0 : Nat) (l1 : Int32) (l2 : Int32) (σ : Sg) : Option (Int32 × Sg) :=
  chk (ckO σ 6 l0) <|
  chk (ckV (gR σ l0 19)) <|
  chk (ckI σ (gR σ l0 19) (((12 : Int32) * l1) + l2)) <|
  some ((aI σ (gR σ l0 19) (((12 : Int32) * l1) + l2).toNatClampNeg), σ)
theorem mX8_milesOf (E : Ev) (l : Launch) {l0 : Nat} {l1 : Int32} {l2 : Int32} {σ : Sg} {r : Int32} {σ' : Sg} (h : DX8_milesOf l0 l1 l2 σ = some (r, σ')) : Mt E l yX8_milesOf cX8_milesOf 3 (some .int) 1 0 0 [.ref (ad E l0), .int l1, .int l2] σ (some (.int r)) σ' := by
  refine Mt.ofX (by decide) (Nat.le_of_ble_eq_true rfl) (L0 := [some (.ref (ad E l0)), some (.int l1), some (.int l2)]) (xEntN_ok [.ref (ad E l0), .int l1, .int l2] 3) (fun p e s m args below meth c C hr hn => ?_)
  unfold DX8_milesOf at h
  refine x_aload_n (pc := 0) C dX8_milesOf_0 rfl rfl ?_
  obtain ⟨k, h⟩ := chk_s h
  have k2 := k
  obtain ⟨k, h⟩ := chk_s h
  refine x_getR (pc := 1) C fX8_34 rfl k2 k dX8_milesOf_1 ?_
  refine x_bipush (v := 12) (pc := 4) C dX8_milesOf_4 (by decide) ?_
  refine x_iload_n (pc := 6) C dX8_milesOf_6 rfl rfl ?_
  refine x_imul (pc := 7) C dX8_milesOf_7 ?_
  refine x_iload_n (pc := 8) C dX8_milesOf_8 rfl rfl ?_
  refine x_iadd (pc := 9) C dX8_milesOf_9 ?_
  obtain ⟨k, h⟩ := chk_s h
  refine x_iald (pc := 10) C k dX8_milesOf_10 ?_
  cases h
  exact x_iret C hr dX8_milesOf_11
def DX8_miles_21 (σ : Sg) : Option (Int32 × Sg) :=
  some ((-1 : Int32), σ)
theorem tX8_miles_21 {r : Int32} {σ' : Sg} (C : Cx E p s m args meth c RX8 cX8_miles 3) (hr : meth.sig.returnType = (some .int)) {σ : Sg} (h : DX8_miles_21  σ = some (r, σ')) : Y E p l e (rmA 2 0 0) s m args below meth c (some (.int r)) σ' 0 0 3 0 0 σ 21 [none, none, none] [] := by
  unfold DX8_miles_21 at h
  refine x_iconst (v := -1) (pc := 21) C dX8_miles_21 (by decide) ?_
  cases h
  exact x_iret C hr dX8_miles_22
def DX8_miles_45 (s0 : Int32) (σ : Sg) : Option (Int32 × Sg) :=
  some (s0, σ)
theorem tX8_miles_45 {r : Int32} {σ' : Sg} (C : Cx E p s m args meth c RX8 cX8_miles 3) (hr : meth.sig.returnType = (some .int)) {s0 : Int32} {σ : Sg} (h : DX8_miles_45 s0 σ = some (r, σ')) : Y E p l e (rmA 2 0 0) s m args below meth c (some (.int r)) σ' 0 0 3 0 0 σ 45 [none, none, none] [.int s0] := by
  unfold DX8_miles_45 at h
  cases h
  exact x_iret C hr dX8_miles_45
def DX8_miles (l0 : Nat) (l1 : Int32) (l2 : Int32) (σ : Sg) : Option (Int32 × Sg) :=
  chk (ckO σ 6 l0) <|
  wlet (pI σ l0 0 (0 : Int32)) fun σ1 =>
  chk (ckO σ1 6 l0) <|
  bnd (DX8_isPlace l0 l1 σ1) fun v2 σ3 =>
  if v2 = 0 then
    DX8_miles_21 σ3
  else
    chk (ckO σ3 6 l0) <|
    bnd (DX8_isPlace l0 l2 σ3) fun v4 σ5 =>
    if v4 = 0 then
      DX8_miles_21 σ5
    else
      chk (ckO σ5 6 l0) <|
      bnd (DX8_milesOf l0 l1 l2 σ5) fun v6 σ7 =>
      if v6 < (1000000 : Int32) then
        chk (ckO σ7 6 l0) <|
        bnd (DX8_milesOf l0 l1 l2 σ7) fun v8 σ9 =>
        DX8_miles_45 v8 σ9
      else
        DX8_miles_45 (-2 : Int32) σ7
theorem mX8_miles (E : Ev) (l : Launch) {l0 : Nat} {l1 : Int32} {l2 : Int32} {σ : Sg} {r : Int32} {σ' : Sg} (h : DX8_miles l0 l1 l2 σ = some (r, σ')) : Mt E l yX8_miles cX8_miles 3 (some .int) 2 0 0 [.ref (ad E l0), .int l1, .int l2] σ (some (.int r)) σ' := by
  refine Mt.ofX (by decide) (Nat.le_of_ble_eq_true rfl) (L0 := [some (.ref (ad E l0)), some (.int l1), some (.int l2)]) (xEntN_ok [.ref (ad E l0), .int l1, .int l2] 3) (fun p e s m args below meth c C hr hn => ?_)
  unfold DX8_miles at h
  refine x_aload_n (pc := 0) C dX8_miles_0 rfl rfl ?_
  refine x_iconst (v := 0) (pc := 1) C dX8_miles_1 (by decide) ?_
  obtain ⟨k, h⟩ := chk_s h
  obtain ⟨σ1, e1, h⟩ := wlet_s h
  refine x_putI (pc := 2) C pX8_112 rfl k dX8_miles_2 (x_eq e1 ?_)
  refine x_aload_n (pc := 5) C dX8_miles_5 rfl rfl ?_
  refine x_iload_n (pc := 6) C dX8_miles_6 rfl rfl ?_
  obtain ⟨k, h⟩ := chk_s h
  have k2 := k
  obtain ⟨v2, σ3, k, h⟩ := bnd_s h
  refine x_callV1 (pc := 7) C (mX8_isPlace E l k) cl6 k2 cX8_305 nX8_isPlace sX8_isPlace rfl rfl (Nat.le_of_ble_eq_true rfl) ⟨Nat.le_of_ble_eq_true rfl, Nat.le_of_ble_eq_true rfl, Nat.le_of_ble_eq_true rfl, Nat.le_of_ble_eq_true rfl⟩ dX8_miles_7 ?_
  refine x_if_eq (pc := 10) (tgt := 21) C dX8_miles_10 (by decide) (fun q => ?_) (fun q => ?_)
  · rw [if_pos q] at h
    exact x_sub (tX8_miles_21 C hr h) (xLe_n (xLe_n (xLe_n xLe_0)))
  · rw [if_neg q] at h
    refine x_aload_n (pc := 13) C dX8_miles_13 rfl rfl ?_
    refine x_iload_n (pc := 14) C dX8_miles_14 rfl rfl ?_
    obtain ⟨k, h⟩ := chk_s h
    have k2 := k
    obtain ⟨v4, σ5, k, h⟩ := bnd_s h
    refine x_callV1 (pc := 15) C (mX8_isPlace E l k) cl6 k2 cX8_305 nX8_isPlace sX8_isPlace rfl rfl (Nat.le_of_ble_eq_true rfl) ⟨Nat.le_of_ble_eq_true rfl, Nat.le_of_ble_eq_true rfl, Nat.le_of_ble_eq_true rfl, Nat.le_of_ble_eq_true rfl⟩ dX8_miles_15 ?_
    refine x_if_ne (pc := 18) (tgt := 23) C dX8_miles_18 (by decide) (fun q => ?_) (fun q => ?_)
    · rw [if_pos q] at h
      exact x_sub (tX8_miles_21 C hr h) (xLe_n (xLe_n (xLe_n xLe_0)))
    · rw [if_neg q] at h
      refine x_aload_n (pc := 23) C dX8_miles_23 rfl rfl ?_
      refine x_iload_n (pc := 24) C dX8_miles_24 rfl rfl ?_
      refine x_iload_n (pc := 25) C dX8_miles_25 rfl rfl ?_
      obtain ⟨k, h⟩ := chk_s h
      have k2 := k
      obtain ⟨v6, σ7, k, h⟩ := bnd_s h
      refine x_callV1 (pc := 26) C (mX8_milesOf E l k) cl6 k2 cX8_308 nX8_milesOf sX8_milesOf rfl rfl (Nat.le_of_ble_eq_true rfl) ⟨Nat.le_of_ble_eq_true rfl, Nat.le_of_ble_eq_true rfl, Nat.le_of_ble_eq_true rfl, Nat.le_of_ble_eq_true rfl⟩ dX8_miles_26 ?_
      refine x_ldc (pc := 29) C kX8_245 dX8_miles_29 ?_
      refine x_icmp_lt (pc := 31) (tgt := 39) C dX8_miles_31 (by decide) (fun q => ?_) (fun q => ?_)
      · rw [if_pos q] at h
        refine x_aload_n (pc := 39) C dX8_miles_39 rfl rfl ?_
        refine x_iload_n (pc := 40) C dX8_miles_40 rfl rfl ?_
        refine x_iload_n (pc := 41) C dX8_miles_41 rfl rfl ?_
        obtain ⟨k, h⟩ := chk_s h
        have k2 := k
        obtain ⟨v8, σ9, k, h⟩ := bnd_s h
        refine x_callV1 (pc := 42) C (mX8_milesOf E l k) cl6 k2 cX8_308 nX8_milesOf sX8_milesOf rfl rfl (Nat.le_of_ble_eq_true rfl) ⟨Nat.le_of_ble_eq_true rfl, Nat.le_of_ble_eq_true rfl, Nat.le_of_ble_eq_true rfl, Nat.le_of_ble_eq_true rfl⟩ dX8_miles_42 ?_
        exact x_sub (tX8_miles_45 C hr h) (xLe_n (xLe_n (xLe_n xLe_0)))
      · rw [if_neg q] at h
        refine x_bipush (v := -2) (pc := 34) C dX8_miles_34 (by decide) ?_
        refine x_goto (tgt := 45) (pc := 36) C dX8_miles_36 (by decide) ?_
        exact x_sub (tX8_miles_45 C hr h) (xLe_n (xLe_n (xLe_n xLe_0)))
def DX8_way_25 (σ : Sg) : Option (Int32 × Sg) :=
  some ((-1 : Int32), σ)
theorem tX8_way_25 {r : Int32} {σ' : Sg} (C : Cx E p s m args meth c RX8 cX8_way 7) (hr : meth.sig.returnType = (some .int)) {σ : Sg} (h : DX8_way_25  σ = some (r, σ')) : Y E p l e (rmA 3 0 0) s m args below meth c (some (.int r)) σ' 0 0 7 0 0 σ 25 [none, none, none, none, none, none, none] [] := by
  unfold DX8_way_25 at h
  refine x_iconst (v := -1) (pc := 25) C dX8_way_25 (by decide) ?_
  cases h
  exact x_iret C hr dX8_way_26
def DX8_way_59 (σ : Sg) : Option (Int32 × Sg) :=
  some ((-2 : Int32), σ)
theorem tX8_way_59 {r : Int32} {σ' : Sg} (C : Cx E p s m args meth c RX8 cX8_way 7) (hr : meth.sig.returnType = (some .int)) {σ : Sg} (h : DX8_way_59  σ = some (r, σ')) : Y E p l e (rmA 3 0 0) s m args below meth c (some (.int r)) σ' 0 0 7 0 0 σ 59 [none, none, none, none, none, none, none] [] := by
  unfold DX8_way_59 at h
  refine x_bipush (v := -2) (pc := 59) C dX8_way_59 (by decide) ?_
  cases h
  exact x_iret C hr dX8_way_61
def DX8_way_98 (K47 : Nat → Int32 → Int32 → Int32 → Int32 → Sg → Option (Int32 × Sg)) (K65 : Nat → Int32 → Int32 → Int32 → Int32 → Int32 → Sg → Option (Int32 × Sg)) (l0 : Nat) (l2 : Int32) (l3 : Int32) (l4 : Int32) (l5 : Int32) (l6 : Int32) (σ : Sg) : Option (Int32 × Sg) :=
  K65 l0 l2 l3 l4 l5 (l6 + (1 : Int32)) σ
theorem tX8_way_98 {r : Int32} {σ' : Sg} (C : Cx E p s m args meth c RX8 cX8_way 7) (hr : meth.sig.returnType = (some .int)) {K47 : Nat → Int32 → Int32 → Int32 → Int32 → Sg → Option (Int32 × Sg)} (hK47 : ∀ (l0 : Nat) (l2 : Int32) (l3 : Int32) (l4 : Int32) (l5 : Int32) (σ : Sg), K47 l0 l2 l3 l4 l5 σ = some (r, σ') → Y E p l e (rmA 3 0 0) s m args below meth c (some (.int r)) σ' 0 0 7 0 0 σ 47 [some (.ref (ad E l0)), none, some (.int l2), some (.int l3), some (.int l4), some (.int l5), none] []) {K65 : Nat → Int32 → Int32 → Int32 → Int32 → Int32 → Sg → Option (Int32 × Sg)} (hK65 : ∀ (l0 : Nat) (l2 : Int32) (l3 : Int32) (l4 : Int32) (l5 : Int32) (l6 : Int32) (σ : Sg), K65 l0 l2 l3 l4 l5 l6 σ = some (r, σ') → Y E p l e (rmA 3 0 0) s m args below meth c (some (.int r)) σ' 0 0 7 0 0 σ 65 [some (.ref (ad E l0)), none, some (.int l2), some (.int l3), some (.int l4), some (.int l5), some (.int l6)] []) {l0 : Nat} {l2 : Int32} {l3 : Int32} {l4 : Int32} {l5 : Int32} {l6 : Int32} {σ : Sg} (h : DX8_way_98 K47 K65 l0 l2 l3 l4 l5 l6 σ = some (r, σ')) : Y E p l e (rmA 3 0 0) s m args below meth c (some (.int r)) σ' 0 0 7 0 0 σ 98 [some (.ref (ad E l0)), none, some (.int l2), some (.int l3), some (.int l4), some (.int l5), some (.int l6)] [] := by
  unfold DX8_way_98 at h
  refine x_iinc (v := 1) (M := [some _, none, some _, some _, some _, some _, some _]) (pc := 98) C dX8_way_98 rfl (by decide) (by decide) rfl ?_
  refine x_goto (tgt := 65) (pc := 101) C dX8_way_101 (by decide) ?_
  exact x_sub (hK65 _ _ _ _ _ _ _ h) (xLe_s (xLe_n (xLe_s (xLe_s (xLe_s (xLe_s (xLe_s xLe_0)))))))
def DX8_way_104 (K47 : Nat → Int32 → Int32 → Int32 → Int32 → Sg → Option (Int32 × Sg)) (l0 : Nat) (l2 : Int32) (l3 : Int32) (l5 : Int32) (l6 : Int32) (σ : Sg) : Option (Int32 × Sg) :=
  K47 l0 l2 l3 l6 (l5 + (1 : Int32)) σ
theorem tX8_way_104 {r : Int32} {σ' : Sg} (C : Cx E p s m args meth c RX8 cX8_way 7) (hr : meth.sig.returnType = (some .int)) {K47 : Nat → Int32 → Int32 → Int32 → Int32 → Sg → Option (Int32 × Sg)} (hK47 : ∀ (l0 : Nat) (l2 : Int32) (l3 : Int32) (l4 : Int32) (l5 : Int32) (σ : Sg), K47 l0 l2 l3 l4 l5 σ = some (r, σ') → Y E p l e (rmA 3 0 0) s m args below meth c (some (.int r)) σ' 0 0 7 0 0 σ 47 [some (.ref (ad E l0)), none, some (.int l2), some (.int l3), some (.int l4), some (.int l5), none] []) {l0 : Nat} {l2 : Int32} {l3 : Int32} {l5 : Int32} {l6 : Int32} {σ : Sg} (h : DX8_way_104 K47 l0 l2 l3 l5 l6 σ = some (r, σ')) : Y E p l e (rmA 3 0 0) s m args below meth c (some (.int r)) σ' 0 0 7 0 0 σ 104 [some (.ref (ad E l0)), none, some (.int l2), some (.int l3), none, some (.int l5), some (.int l6)] [] := by
  unfold DX8_way_104 at h
  refine x_iload (pc := 104) C dX8_way_104 rfl ?_
  refine x_istore (M := [some _, none, some _, some _, some _, some _, some _]) (pc := 106) C dX8_way_106 (by decide) rfl ?_
  refine x_iinc (v := 1) (M := [some _, none, some _, some _, some _, some _, some _]) (pc := 108) C dX8_way_108 rfl (by decide) (by decide) rfl ?_
  refine x_goto (tgt := 47) (pc := 111) C dX8_way_111 (by decide) ?_
  exact x_sub (hK47 _ _ _ _ _ _ h) (xLe_s (xLe_n (xLe_s (xLe_s (xLe_s (xLe_s (xLe_n xLe_0)))))))
def DX8_way_65 (K47 : Nat → Int32 → Int32 → Int32 → Int32 → Sg → Option (Int32 × Sg)) : Nat → Nat → Int32 → Int32 → Int32 → Int32 → Int32 → Sg → Option (Int32 × Sg)
  | 0, _, _, _, _, _, _, _ => none
  | n + 1, l0, l2, l3, l4, l5, l6, σ =>
    if l6 = l4 then
      DX8_way_98 K47 (DX8_way_65 K47 n) l0 l2 l3 l4 l5 l6 σ
    else
      chk (ckO σ 6 l0) <|
      bnd (DX8_legOf l0 l4 l6 σ) fun v1 σ2 =>
      chk (ckO σ2 6 l0) <|
      bnd (DX8_milesOf l0 l6 l2 σ2) fun v3 σ4 =>
      chk (ckO σ4 6 l0) <|
      bnd (DX8_milesOf l0 l4 l2 σ4) fun v5 σ6 =>
      if (v1 + v3) = v5 then
        DX8_way_104 K47 l0 l2 l3 l5 l6 σ6
      else
        DX8_way_98 K47 (DX8_way_65 K47 n) l0 l2 l3 l4 l5 l6 σ6
theorem tX8_way_65 {r : Int32} {σ' : Sg} (C : Cx E p s m args meth c RX8 cX8_way 7) (hr : meth.sig.returnType = (some .int)) {K47 : Nat → Int32 → Int32 → Int32 → Int32 → Sg → Option (Int32 × Sg)} (hK47 : ∀ (l0 : Nat) (l2 : Int32) (l3 : Int32) (l4 : Int32) (l5 : Int32) (σ : Sg), K47 l0 l2 l3 l4 l5 σ = some (r, σ') → Y E p l e (rmA 3 0 0) s m args below meth c (some (.int r)) σ' 0 0 7 0 0 σ 47 [some (.ref (ad E l0)), none, some (.int l2), some (.int l3), some (.int l4), some (.int l5), none] []) : ∀ (n : Nat) (l0 : Nat) (l2 : Int32) (l3 : Int32) (l4 : Int32) (l5 : Int32) (l6 : Int32) (σ : Sg) (h : DX8_way_65 K47 n l0 l2 l3 l4 l5 l6 σ = some (r, σ')), Y E p l e (rmA 3 0 0) s m args below meth c (some (.int r)) σ' 0 0 7 0 0 σ 65 [some (.ref (ad E l0)), none, some (.int l2), some (.int l3), some (.int l4), some (.int l5), some (.int l6)] [] := by
  intro n
  induction n with
  | zero => intro l0 l2 l3 l4 l5 l6 σ h; cases h
  | succ n ih =>
    intro l0 l2 l3 l4 l5 l6 σ h
    unfold DX8_way_65 at h
    refine x_iload (pc := 65) C dX8_way_65 rfl ?_
    refine x_iload (pc := 67) C dX8_way_67 rfl ?_
    refine x_icmp_eq (pc := 69) (tgt := 98) C dX8_way_69 (by decide) (fun q => ?_) (fun q => ?_)
    · rw [if_pos q] at h
      exact x_sub (tX8_way_98 C hr hK47 ih h) (xLe_s (xLe_n (xLe_s (xLe_s (xLe_s (xLe_s (xLe_s xLe_0)))))))
    · rw [if_neg q] at h
      refine x_aload_n (pc := 72) C dX8_way_72 rfl rfl ?_
      refine x_iload (pc := 73) C dX8_way_73 rfl ?_
      refine x_iload (pc := 75) C dX8_way_75 rfl ?_
      obtain ⟨k, h⟩ := chk_s h
      have k2 := k
      obtain ⟨v1, σ2, k, h⟩ := bnd_s h
      refine x_callV1 (pc := 77) C (mX8_legOf E l k) cl6 k2 cX8_290 nX8_legOf sX8_legOf rfl rfl (Nat.le_of_ble_eq_true rfl) ⟨Nat.le_of_ble_eq_true rfl, Nat.le_of_ble_eq_true rfl, Nat.le_of_ble_eq_true rfl, Nat.le_of_ble_eq_true rfl⟩ dX8_way_77 ?_
      refine x_aload_n (pc := 80) C dX8_way_80 rfl rfl ?_
      refine x_iload (pc := 81) C dX8_way_81 rfl ?_
      refine x_iload_n (pc := 83) C dX8_way_83 rfl rfl ?_
      obtain ⟨k, h⟩ := chk_s h
      have k2 := k
      obtain ⟨v3, σ4, k, h⟩ := bnd_s h
      refine x_callV1 (pc := 84) C (mX8_milesOf E l k) cl6 k2 cX8_308 nX8_milesOf sX8_milesOf rfl rfl (Nat.le_of_ble_eq_true rfl) ⟨Nat.le_of_ble_eq_true rfl, Nat.le_of_ble_eq_true rfl, Nat.le_of_ble_eq_true rfl, Nat.le_of_ble_eq_true rfl⟩ dX8_way_84 ?_
      refine x_iadd (pc := 87) C dX8_way_87 ?_
      refine x_aload_n (pc := 88) C dX8_way_88 rfl rfl ?_
      refine x_iload (pc := 89) C dX8_way_89 rfl ?_
      refine x_iload_n (pc := 91) C dX8_way_91 rfl rfl ?_
      obtain ⟨k, h⟩ := chk_s h
      have k2 := k
      obtain ⟨v5, σ6, k, h⟩ := bnd_s h
      refine x_callV1 (pc := 92) C (mX8_milesOf E l k) cl6 k2 cX8_308 nX8_milesOf sX8_milesOf rfl rfl (Nat.le_of_ble_eq_true rfl) ⟨Nat.le_of_ble_eq_true rfl, Nat.le_of_ble_eq_true rfl, Nat.le_of_ble_eq_true rfl, Nat.le_of_ble_eq_true rfl⟩ dX8_way_92 ?_
      refine x_icmp_eq (pc := 95) (tgt := 104) C dX8_way_95 (by decide) (fun q => ?_) (fun q => ?_)
      · rw [if_pos q] at h
        exact x_sub (tX8_way_104 C hr hK47 h) (xLe_s (xLe_n (xLe_s (xLe_s (xLe_n (xLe_s (xLe_s xLe_0)))))))
      · rw [if_neg q] at h
        exact x_sub (tX8_way_98 C hr hK47 ih h) (xLe_s (xLe_n (xLe_s (xLe_s (xLe_s (xLe_s (xLe_s xLe_0)))))))
def DX8_way_114 (l4 : Int32) (σ : Sg) : Option (Int32 × Sg) :=
  some (l4, σ)
theorem tX8_way_114 {r : Int32} {σ' : Sg} (C : Cx E p s m args meth c RX8 cX8_way 7) (hr : meth.sig.returnType = (some .int)) {l4 : Int32} {σ : Sg} (h : DX8_way_114 l4 σ = some (r, σ')) : Y E p l e (rmA 3 0 0) s m args below meth c (some (.int r)) σ' 0 0 7 0 0 σ 114 [none, none, none, none, some (.int l4), none, none] [] := by
  unfold DX8_way_114 at h
  refine x_iload (pc := 114) C dX8_way_114 rfl ?_
  cases h
  exact x_iret C hr dX8_way_116
def DX8_way_47 : Nat → Nat → Int32 → Int32 → Int32 → Int32 → Sg → Option (Int32 × Sg)
  | 0, _, _, _, _, _, _ => none
  | n + 1, l0, l2, l3, l4, l5, σ =>
    if l3 ≤ l5 then
      DX8_way_114 l4 σ
    else
      if l4 = l2 then
        DX8_way_59 σ
      else
        DX8_way_65 (DX8_way_47 n) FU l0 l2 l3 l4 l5 (0 : Int32) σ
theorem tX8_way_47 {r : Int32} {σ' : Sg} (C : Cx E p s m args meth c RX8 cX8_way 7) (hr : meth.sig.returnType = (some .int)) : ∀ (n : Nat) (l0 : Nat) (l2 : Int32) (l3 : Int32) (l4 : Int32) (l5 : Int32) (σ : Sg) (h : DX8_way_47 n l0 l2 l3 l4 l5 σ = some (r, σ')), Y E p l e (rmA 3 0 0) s m args below meth c (some (.int r)) σ' 0 0 7 0 0 σ 47 [some (.ref (ad E l0)), none, some (.int l2), some (.int l3), some (.int l4), some (.int l5), none] [] := by
  intro n
  induction n with
  | zero => intro l0 l2 l3 l4 l5 σ h; cases h
  | succ n ih =>
    intro l0 l2 l3 l4 l5 σ h
    unfold DX8_way_47 at h
    refine x_iload (pc := 47) C dX8_way_47 rfl ?_
    refine x_iload_n (pc := 49) C dX8_way_49 rfl rfl ?_
    refine x_icmp_ge (pc := 50) (tgt := 114) C dX8_way_50 (by decide) (fun q => ?_) (fun q => ?_)
    · rw [if_pos q] at h
      exact x_sub (tX8_way_114 C hr h) (xLe_n (xLe_n (xLe_n (xLe_n (xLe_s (xLe_n (xLe_n xLe_0)))))))
    · rw [if_neg q] at h
      refine x_iload (pc := 53) C dX8_way_53 rfl ?_
      refine x_iload_n (pc := 55) C dX8_way_55 rfl rfl ?_
      refine x_icmp_ne (pc := 56) (tgt := 62) C dX8_way_56 (by decide) (fun q => ?_) (fun q => ?_)
      · rw [if_pos q] at h
        exact x_sub (tX8_way_59 C hr h) (xLe_n (xLe_n (xLe_n (xLe_n (xLe_n (xLe_n (xLe_n xLe_0)))))))
      · rw [if_neg q] at h
        refine x_iconst (v := 0) (pc := 62) C dX8_way_62 (by decide) ?_
        refine x_istore (M := [some _, none, some _, some _, some _, some _, some _]) (pc := 63) C dX8_way_63 (by decide) rfl ?_
        exact x_sub (tX8_way_65 C hr ih FU _ _ _ _ _ _ _ h) (xLe_s (xLe_n (xLe_s (xLe_s (xLe_s (xLe_s (xLe_s xLe_0)))))))
def DX8_way (l0 : Nat) (l1 : Int32) (l2 : Int32) (l3 : Int32) (σ : Sg) : Option (Int32 × Sg) :=
  chk (ckO σ 6 l0) <|
  wlet (pI σ l0 0 (0 : Int32)) fun σ1 =>
  chk (ckO σ1 6 l0) <|
  bnd (DX8_isPlace l0 l1 σ1) fun v2 σ3 =>
  if v2 = 0 then
    DX8_way_25 σ3
  else
    chk (ckO σ3 6 l0) <|
    bnd (DX8_isPlace l0 l2 σ3) fun v4 σ5 =>
    if v4 = 0 then
      DX8_way_25 σ5
    else
      if 0 ≤ l3 then
        chk (ckO σ5 6 l0) <|
        bnd (DX8_milesOf l0 l1 l2 σ5) fun v6 σ7 =>
        if v6 < (1000000 : Int32) then
          DX8_way_47 FU l0 l2 l3 l1 (0 : Int32) σ7
        else
          some ((-2 : Int32), σ7)
      else
        DX8_way_25 σ5
theorem mX8_way (E : Ev) (l : Launch) {l0 : Nat} {l1 : Int32} {l2 : Int32} {l3 : Int32} {σ : Sg} {r : Int32} {σ' : Sg} (h : DX8_way l0 l1 l2 l3 σ = some (r, σ')) : Mt E l yX8_way cX8_way 7 (some .int) 3 0 0 [.ref (ad E l0), .int l1, .int l2, .int l3] σ (some (.int r)) σ' := by
  refine Mt.ofX (by decide) (Nat.le_of_ble_eq_true rfl) (L0 := [some (.ref (ad E l0)), some (.int l1), some (.int l2), some (.int l3), none, none, none]) (xEntN_ok [.ref (ad E l0), .int l1, .int l2, .int l3] 7) (fun p e s m args below meth c C hr hn => ?_)
  unfold DX8_way at h
  refine x_aload_n (pc := 0) C dX8_way_0 rfl rfl ?_
  refine x_iconst (v := 0) (pc := 1) C dX8_way_1 (by decide) ?_
  obtain ⟨k, h⟩ := chk_s h
  obtain ⟨σ1, e1, h⟩ := wlet_s h
  refine x_putI (pc := 2) C pX8_112 rfl k dX8_way_2 (x_eq e1 ?_)
  refine x_aload_n (pc := 5) C dX8_way_5 rfl rfl ?_
  refine x_iload_n (pc := 6) C dX8_way_6 rfl rfl ?_
  obtain ⟨k, h⟩ := chk_s h
  have k2 := k
  obtain ⟨v2, σ3, k, h⟩ := bnd_s h
  refine x_callV1 (pc := 7) C (mX8_isPlace E l k) cl6 k2 cX8_305 nX8_isPlace sX8_isPlace rfl rfl (Nat.le_of_ble_eq_true rfl) ⟨Nat.le_of_ble_eq_true rfl, Nat.le_of_ble_eq_true rfl, Nat.le_of_ble_eq_true rfl, Nat.le_of_ble_eq_true rfl⟩ dX8_way_7 ?_
  refine x_if_eq (pc := 10) (tgt := 25) C dX8_way_10 (by decide) (fun q => ?_) (fun q => ?_)
  · rw [if_pos q] at h
    exact x_sub (tX8_way_25 C hr h) (xLe_n (xLe_n (xLe_n (xLe_n (xLe_n (xLe_n (xLe_n xLe_0)))))))
  · rw [if_neg q] at h
    refine x_aload_n (pc := 13) C dX8_way_13 rfl rfl ?_
    refine x_iload_n (pc := 14) C dX8_way_14 rfl rfl ?_
    obtain ⟨k, h⟩ := chk_s h
    have k2 := k
    obtain ⟨v4, σ5, k, h⟩ := bnd_s h
    refine x_callV1 (pc := 15) C (mX8_isPlace E l k) cl6 k2 cX8_305 nX8_isPlace sX8_isPlace rfl rfl (Nat.le_of_ble_eq_true rfl) ⟨Nat.le_of_ble_eq_true rfl, Nat.le_of_ble_eq_true rfl, Nat.le_of_ble_eq_true rfl, Nat.le_of_ble_eq_true rfl⟩ dX8_way_15 ?_
    refine x_if_eq (pc := 18) (tgt := 25) C dX8_way_18 (by decide) (fun q => ?_) (fun q => ?_)
    · rw [if_pos q] at h
      exact x_sub (tX8_way_25 C hr h) (xLe_n (xLe_n (xLe_n (xLe_n (xLe_n (xLe_n (xLe_n xLe_0)))))))
    · rw [if_neg q] at h
      refine x_iload_n (pc := 21) C dX8_way_21 rfl rfl ?_
      refine x_if_ge (pc := 22) (tgt := 27) C dX8_way_22 (by decide) (fun q => ?_) (fun q => ?_)
      · rw [if_pos q] at h
        refine x_aload_n (pc := 27) C dX8_way_27 rfl rfl ?_
        refine x_iload_n (pc := 28) C dX8_way_28 rfl rfl ?_
        refine x_iload_n (pc := 29) C dX8_way_29 rfl rfl ?_
        obtain ⟨k, h⟩ := chk_s h
        have k2 := k
        obtain ⟨v6, σ7, k, h⟩ := bnd_s h
        refine x_callV1 (pc := 30) C (mX8_milesOf E l k) cl6 k2 cX8_308 nX8_milesOf sX8_milesOf rfl rfl (Nat.le_of_ble_eq_true rfl) ⟨Nat.le_of_ble_eq_true rfl, Nat.le_of_ble_eq_true rfl, Nat.le_of_ble_eq_true rfl, Nat.le_of_ble_eq_true rfl⟩ dX8_way_30 ?_
        refine x_ldc (pc := 33) C kX8_245 dX8_way_33 ?_
        refine x_icmp_lt (pc := 35) (tgt := 41) C dX8_way_35 (by decide) (fun q => ?_) (fun q => ?_)
        · rw [if_pos q] at h
          refine x_iload_n (pc := 41) C dX8_way_41 rfl rfl ?_
          refine x_istore (M := [some _, some _, some _, some _, some _, none, none]) (pc := 42) C dX8_way_42 (by decide) rfl ?_
          refine x_iconst (v := 0) (pc := 44) C dX8_way_44 (by decide) ?_
          refine x_istore (M := [some _, some _, some _, some _, some _, some _, none]) (pc := 45) C dX8_way_45 (by decide) rfl ?_
          exact x_sub (tX8_way_47 C hr FU _ _ _ _ _ _ h) (xLe_s (xLe_n (xLe_s (xLe_s (xLe_s (xLe_s (xLe_n xLe_0)))))))
        · rw [if_neg q] at h
          refine x_bipush (v := -2) (pc := 38) C dX8_way_38 (by decide) ?_
          cases h
          exact x_iret C hr dX8_way_40
      · rw [if_neg q] at h
        exact x_sub (tX8_way_25 C hr h) (xLe_n (xLe_n (xLe_n (xLe_n (xLe_n (xLe_n (xLe_n xLe_0)))))))
def DX8_weightOf_22 (l0 : Nat) (l2 : Int32) (σ : Sg) : Option (Int32 × Sg) :=
  chk (ckO σ 6 l0) <|
  chk (ckV (gR σ l0 13)) <|
  chk (ckI σ (gR σ l0 13) (((2 : Int32) * l2) + (1 : Int32))) <|
  some ((aI σ (gR σ l0 13) (((2 : Int32) * l2) + (1 : Int32)).toNatClampNeg), σ)
theorem tX8_weightOf_22 {r : Int32} {σ' : Sg} (C : Cx E p s m args meth c RX8 cX8_weightOf 3) (hr : meth.sig.returnType = (some .int)) {l0 : Nat} {l2 : Int32} {σ : Sg} (h : DX8_weightOf_22 l0 l2 σ = some (r, σ')) : Y E p l e (rmA 1 0 0) s m args below meth c (some (.int r)) σ' 0 0 3 0 0 σ 22 [some (.ref (ad E l0)), none, some (.int l2)] [] := by
  unfold DX8_weightOf_22 at h
  refine x_aload_n (pc := 22) C dX8_weightOf_22 rfl rfl ?_
  obtain ⟨k, h⟩ := chk_s h
  have k2 := k
  obtain ⟨k, h⟩ := chk_s h
  refine x_getR (pc := 23) C fX8_16 rfl k2 k dX8_weightOf_23 ?_
  refine x_iconst (v := 2) (pc := 26) C dX8_weightOf_26 (by decide) ?_
  refine x_iload_n (pc := 27) C dX8_weightOf_27 rfl rfl ?_
  refine x_imul (pc := 28) C dX8_weightOf_28 ?_
  refine x_iconst (v := 1) (pc := 29) C dX8_weightOf_29 (by decide) ?_
  refine x_iadd (pc := 30) C dX8_weightOf_30 ?_
  obtain ⟨k, h⟩ := chk_s h
  refine x_iald (pc := 31) C k dX8_weightOf_31 ?_
  cases h
  exact x_iret C hr dX8_weightOf_32
def DX8_weightOf_39 (σ : Sg) : Option (Int32 × Sg) :=
  some ((100 : Int32), σ)
theorem tX8_weightOf_39 {r : Int32} {σ' : Sg} (C : Cx E p s m args meth c RX8 cX8_weightOf 3) (hr : meth.sig.returnType = (some .int)) {σ : Sg} (h : DX8_weightOf_39  σ = some (r, σ')) : Y E p l e (rmA 1 0 0) s m args below meth c (some (.int r)) σ' 0 0 3 0 0 σ 39 [none, none, none] [] := by
  unfold DX8_weightOf_39 at h
  refine x_bipush (v := 100) (pc := 39) C dX8_weightOf_39 (by decide) ?_
  cases h
  exact x_iret C hr dX8_weightOf_41
def DX8_weightOf_2 : Nat → Nat → Int32 → Int32 → Sg → Option (Int32 × Sg)
  | 0, _, _, _, _ => none
  | n + 1, l0, l1, l2, σ =>
    chk (ckO σ 6 l0) <|
    if (gI σ l0 6) ≤ l2 then
      DX8_weightOf_39 σ
    else
      chk (ckO σ 6 l0) <|
      chk (ckV (gR σ l0 13)) <|
      chk (ckI σ (gR σ l0 13) ((2 : Int32) * l2)) <|
      if (aI σ (gR σ l0 13) ((2 : Int32) * l2).toNatClampNeg) < l1 then
        DX8_weightOf_2 n l0 l1 (l2 + (1 : Int32)) σ
      else
        DX8_weightOf_22 l0 l2 σ
theorem tX8_weightOf_2 {r : Int32} {σ' : Sg} (C : Cx E p s m args meth c RX8 cX8_weightOf 3) (hr : meth.sig.returnType = (some .int)) : ∀ (n : Nat) (l0 : Nat) (l1 : Int32) (l2 : Int32) (σ : Sg) (h : DX8_weightOf_2 n l0 l1 l2 σ = some (r, σ')), Y E p l e (rmA 1 0 0) s m args below meth c (some (.int r)) σ' 0 0 3 0 0 σ 2 [some (.ref (ad E l0)), some (.int l1), some (.int l2)] [] := by
  intro n
  induction n with
  | zero => intro l0 l1 l2 σ h; cases h
  | succ n ih =>
    intro l0 l1 l2 σ h
    unfold DX8_weightOf_2 at h
    refine x_iload_n (pc := 2) C dX8_weightOf_2 rfl rfl ?_
    refine x_aload_n (pc := 3) C dX8_weightOf_3 rfl rfl ?_
    obtain ⟨k, h⟩ := chk_s h
    refine x_getI (pc := 4) C fX8_220 rfl k dX8_weightOf_4 ?_
    refine x_icmp_ge (pc := 7) (tgt := 39) C dX8_weightOf_7 (by decide) (fun q => ?_) (fun q => ?_)
    · rw [if_pos q] at h
      exact x_sub (tX8_weightOf_39 C hr h) (xLe_n (xLe_n (xLe_n xLe_0)))
    · rw [if_neg q] at h
      refine x_iload_n (pc := 10) C dX8_weightOf_10 rfl rfl ?_
      refine x_aload_n (pc := 11) C dX8_weightOf_11 rfl rfl ?_
      obtain ⟨k, h⟩ := chk_s h
      have k2 := k
      obtain ⟨k, h⟩ := chk_s h
      refine x_getR (pc := 12) C fX8_16 rfl k2 k dX8_weightOf_12 ?_
      refine x_iconst (v := 2) (pc := 15) C dX8_weightOf_15 (by decide) ?_
      refine x_iload_n (pc := 16) C dX8_weightOf_16 rfl rfl ?_
      refine x_imul (pc := 17) C dX8_weightOf_17 ?_
      obtain ⟨k, h⟩ := chk_s h
      refine x_iald (pc := 18) C k dX8_weightOf_18 ?_
      refine x_icmp_gt (pc := 19) (tgt := 33) C dX8_weightOf_19 (by decide) (fun q => ?_) (fun q => ?_)
      · rw [if_pos q] at h
        refine x_iinc (v := 1) (M := [some _, some _, some _]) (pc := 33) C dX8_weightOf_33 rfl (by decide) (by decide) rfl ?_
        refine x_goto (tgt := 2) (pc := 36) C dX8_weightOf_36 (by decide) ?_
        exact x_sub (ih _ _ _ _ h) (xLe_s (xLe_s (xLe_s xLe_0)))
      · rw [if_neg q] at h
        exact x_sub (tX8_weightOf_22 C hr h) (xLe_s (xLe_n (xLe_s xLe_0)))
def DX8_weightOf (l0 : Nat) (l1 : Int32) (σ : Sg) : Option (Int32 × Sg) :=
  DX8_weightOf_2 FU l0 l1 (0 : Int32) σ
theorem mX8_weightOf (E : Ev) (l : Launch) {l0 : Nat} {l1 : Int32} {σ : Sg} {r : Int32} {σ' : Sg} (h : DX8_weightOf l0 l1 σ = some (r, σ')) : Mt E l yX8_weightOf cX8_weightOf 3 (some .int) 1 0 0 [.ref (ad E l0), .int l1] σ (some (.int r)) σ' := by
  refine Mt.ofX (by decide) (Nat.le_of_ble_eq_true rfl) (L0 := [some (.ref (ad E l0)), some (.int l1), none]) (xEntN_ok [.ref (ad E l0), .int l1] 3) (fun p e s m args below meth c C hr hn => ?_)
  unfold DX8_weightOf at h
  refine x_iconst (v := 0) (pc := 0) C dX8_weightOf_0 (by decide) ?_
  refine x_istore_n (M := [some _, some _, some _]) (pc := 1) C dX8_weightOf_1 rfl (by decide) rfl ?_
  exact x_sub (tX8_weightOf_2 C hr FU _ _ _ _ h) (xLe_s (xLe_s (xLe_s xLe_0)))
def DX8_weight_26 (s0 : Int32) (σ : Sg) : Option (Int32 × Sg) :=
  some (s0, σ)
theorem tX8_weight_26 {r : Int32} {σ' : Sg} (C : Cx E p s m args meth c RX8 cX8_weight 2) (hr : meth.sig.returnType = (some .int)) {s0 : Int32} {σ : Sg} (h : DX8_weight_26 s0 σ = some (r, σ')) : Y E p l e (rmA 2 0 0) s m args below meth c (some (.int r)) σ' 0 0 2 0 0 σ 26 [none, none] [.int s0] := by
  unfold DX8_weight_26 at h
  cases h
  exact x_iret C hr dX8_weight_26
def DX8_weight_25 (σ : Sg) : Option (Int32 × Sg) :=
  DX8_weight_26 (-1 : Int32) σ
theorem tX8_weight_25 {r : Int32} {σ' : Sg} (C : Cx E p s m args meth c RX8 cX8_weight 2) (hr : meth.sig.returnType = (some .int)) {σ : Sg} (h : DX8_weight_25  σ = some (r, σ')) : Y E p l e (rmA 2 0 0) s m args below meth c (some (.int r)) σ' 0 0 2 0 0 σ 25 [none, none] [] := by
  unfold DX8_weight_25 at h
  refine x_iconst (v := -1) (pc := 25) C dX8_weight_25 (by decide) ?_
  exact x_sub (tX8_weight_26 C hr h) (xLe_n (xLe_n xLe_0))
def DX8_weight (l0 : Nat) (l1 : Int32) (σ : Sg) : Option (Int32 × Sg) :=
  chk (ckO σ 6 l0) <|
  wlet (pI σ l0 0 (0 : Int32)) fun σ1 =>
  if l1 < (1 : Int32) then
    DX8_weight_25 σ1
  else
    if (200000 : Int32) < l1 then
      DX8_weight_25 σ1
    else
      chk (ckO σ1 6 l0) <|
      bnd (DX8_weightOf l0 l1 σ1) fun v2 σ3 =>
      DX8_weight_26 v2 σ3
theorem mX8_weight (E : Ev) (l : Launch) {l0 : Nat} {l1 : Int32} {σ : Sg} {r : Int32} {σ' : Sg} (h : DX8_weight l0 l1 σ = some (r, σ')) : Mt E l yX8_weight cX8_weight 2 (some .int) 2 0 0 [.ref (ad E l0), .int l1] σ (some (.int r)) σ' := by
  refine Mt.ofX (by decide) (Nat.le_of_ble_eq_true rfl) (L0 := [some (.ref (ad E l0)), some (.int l1)]) (xEntN_ok [.ref (ad E l0), .int l1] 2) (fun p e s m args below meth c C hr hn => ?_)
  unfold DX8_weight at h
  refine x_aload_n (pc := 0) C dX8_weight_0 rfl rfl ?_
  refine x_iconst (v := 0) (pc := 1) C dX8_weight_1 (by decide) ?_
  obtain ⟨k, h⟩ := chk_s h
  obtain ⟨σ1, e1, h⟩ := wlet_s h
  refine x_putI (pc := 2) C pX8_112 rfl k dX8_weight_2 (x_eq e1 ?_)
  refine x_iload_n (pc := 5) C dX8_weight_5 rfl rfl ?_
  refine x_iconst (v := 1) (pc := 6) C dX8_weight_6 (by decide) ?_
  refine x_icmp_lt (pc := 7) (tgt := 25) C dX8_weight_7 (by decide) (fun q => ?_) (fun q => ?_)
  · rw [if_pos q] at h
    exact x_sub (tX8_weight_25 C hr h) (xLe_n (xLe_n xLe_0))
  · rw [if_neg q] at h
    refine x_iload_n (pc := 10) C dX8_weight_10 rfl rfl ?_
    refine x_ldc_w (pc := 11) C kX8_311 dX8_weight_11 ?_
    refine x_icmp_gt (pc := 14) (tgt := 25) C dX8_weight_14 (by decide) (fun q => ?_) (fun q => ?_)
    · rw [if_pos q] at h
      exact x_sub (tX8_weight_25 C hr h) (xLe_n (xLe_n xLe_0))
    · rw [if_neg q] at h
      refine x_aload_n (pc := 17) C dX8_weight_17 rfl rfl ?_
      refine x_iload_n (pc := 18) C dX8_weight_18 rfl rfl ?_
      obtain ⟨k, h⟩ := chk_s h
      have k2 := k
      obtain ⟨v2, σ3, k, h⟩ := bnd_s h
      refine x_callV1 (pc := 19) C (mX8_weightOf E l k) cl6 k2 cX8_312 nX8_weightOf sX8_weightOf rfl rfl (Nat.le_of_ble_eq_true rfl) ⟨Nat.le_of_ble_eq_true rfl, Nat.le_of_ble_eq_true rfl, Nat.le_of_ble_eq_true rfl, Nat.le_of_ble_eq_true rfl⟩ dX8_weight_19 ?_
      refine x_goto (tgt := 26) (pc := 22) C dX8_weight_22 (by decide) ?_
      exact x_sub (tX8_weight_26 C hr h) (xLe_n (xLe_n xLe_0))
def DX8_base_45 (s0 : Int32) (σ : Sg) : Option (Int32 × Sg) :=
  some (s0, σ)
theorem tX8_base_45 {r : Int32} {σ' : Sg} (C : Cx E p s m args meth c RX8 cX8_base 4) (hr : meth.sig.returnType = (some .int)) {s0 : Int32} {σ : Sg} (h : DX8_base_45 s0 σ = some (r, σ')) : Y E p l e (rmA 3 0 0) s m args below meth c (some (.int r)) σ' 0 0 4 0 0 σ 45 [none, none, none, none] [.int s0] := by
  unfold DX8_base_45 at h
  cases h
  exact x_iret C hr dX8_base_45
def DX8_base_44 (σ : Sg) : Option (Int32 × Sg) :=
  DX8_base_45 (-1 : Int32) σ
theorem tX8_base_44 {r : Int32} {σ' : Sg} (C : Cx E p s m args meth c RX8 cX8_base 4) (hr : meth.sig.returnType = (some .int)) {σ : Sg} (h : DX8_base_44  σ = some (r, σ')) : Y E p l e (rmA 3 0 0) s m args below meth c (some (.int r)) σ' 0 0 4 0 0 σ 44 [none, none, none, none] [] := by
  unfold DX8_base_44 at h
  refine x_iconst (v := -1) (pc := 44) C dX8_base_44 (by decide) ?_
  exact x_sub (tX8_base_45 C hr h) (xLe_n (xLe_n (xLe_n (xLe_n xLe_0))))
def DX8_base (l0 : Nat) (l1 : Int32) (l2 : Int32) (l3 : Int32) (σ : Sg) : Option (Int32 × Sg) :=
  chk (ckO σ 6 l0) <|
  wlet (pI σ l0 0 (0 : Int32)) fun σ1 =>
  chk (ckO σ1 6 l0) <|
  bnd (DX8_isCarrier l0 l1 σ1) fun v2 σ3 =>
  if v2 = 0 then
    DX8_base_44 σ3
  else
    chk (ckO σ3 6 l0) <|
    bnd (DX8_isPlace l0 l2 σ3) fun v4 σ5 =>
    if v4 = 0 then
      DX8_base_44 σ5
    else
      chk (ckO σ5 6 l0) <|
      bnd (DX8_isPlace l0 l3 σ5) fun v6 σ7 =>
      if v6 = 0 then
        DX8_base_44 σ7
      else
        if l2 = l3 then
          DX8_base_44 σ7
        else
          chk (ckO σ7 6 l0) <|
          bnd (DX8_baseOf l0 l1 l2 l3 σ7) fun v8 σ9 =>
          DX8_base_45 v8 σ9
theorem mX8_base (E : Ev) (l : Launch) {l0 : Nat} {l1 : Int32} {l2 : Int32} {l3 : Int32} {σ : Sg} {r : Int32} {σ' : Sg} (h : DX8_base l0 l1 l2 l3 σ = some (r, σ')) : Mt E l yX8_base cX8_base 4 (some .int) 3 0 0 [.ref (ad E l0), .int l1, .int l2, .int l3] σ (some (.int r)) σ' := by
  refine Mt.ofX (by decide) (Nat.le_of_ble_eq_true rfl) (L0 := [some (.ref (ad E l0)), some (.int l1), some (.int l2), some (.int l3)]) (xEntN_ok [.ref (ad E l0), .int l1, .int l2, .int l3] 4) (fun p e s m args below meth c C hr hn => ?_)
  unfold DX8_base at h
  refine x_aload_n (pc := 0) C dX8_base_0 rfl rfl ?_
  refine x_iconst (v := 0) (pc := 1) C dX8_base_1 (by decide) ?_
  obtain ⟨k, h⟩ := chk_s h
  obtain ⟨σ1, e1, h⟩ := wlet_s h
  refine x_putI (pc := 2) C pX8_112 rfl k dX8_base_2 (x_eq e1 ?_)
  refine x_aload_n (pc := 5) C dX8_base_5 rfl rfl ?_
  refine x_iload_n (pc := 6) C dX8_base_6 rfl rfl ?_
  obtain ⟨k, h⟩ := chk_s h
  have k2 := k
  obtain ⟨v2, σ3, k, h⟩ := bnd_s h
  refine x_callV1 (pc := 7) C (mX8_isCarrier E l k) cl6 k2 cX8_315 nX8_isCarrier sX8_isCarrier rfl rfl (Nat.le_of_ble_eq_true rfl) ⟨Nat.le_of_ble_eq_true rfl, Nat.le_of_ble_eq_true rfl, Nat.le_of_ble_eq_true rfl, Nat.le_of_ble_eq_true rfl⟩ dX8_base_7 ?_
  refine x_if_eq (pc := 10) (tgt := 44) C dX8_base_10 (by decide) (fun q => ?_) (fun q => ?_)
  · rw [if_pos q] at h
    exact x_sub (tX8_base_44 C hr h) (xLe_n (xLe_n (xLe_n (xLe_n xLe_0))))
  · rw [if_neg q] at h
    refine x_aload_n (pc := 13) C dX8_base_13 rfl rfl ?_
    refine x_iload_n (pc := 14) C dX8_base_14 rfl rfl ?_
    obtain ⟨k, h⟩ := chk_s h
    have k2 := k
    obtain ⟨v4, σ5, k, h⟩ := bnd_s h
    refine x_callV1 (pc := 15) C (mX8_isPlace E l k) cl6 k2 cX8_305 nX8_isPlace sX8_isPlace rfl rfl (Nat.le_of_ble_eq_true rfl) ⟨Nat.le_of_ble_eq_true rfl, Nat.le_of_ble_eq_true rfl, Nat.le_of_ble_eq_true rfl, Nat.le_of_ble_eq_true rfl⟩ dX8_base_15 ?_
    refine x_if_eq (pc := 18) (tgt := 44) C dX8_base_18 (by decide) (fun q => ?_) (fun q => ?_)
    · rw [if_pos q] at h
      exact x_sub (tX8_base_44 C hr h) (xLe_n (xLe_n (xLe_n (xLe_n xLe_0))))
    · rw [if_neg q] at h
      refine x_aload_n (pc := 21) C dX8_base_21 rfl rfl ?_
      refine x_iload_n (pc := 22) C dX8_base_22 rfl rfl ?_
      obtain ⟨k, h⟩ := chk_s h
      have k2 := k
      obtain ⟨v6, σ7, k, h⟩ := bnd_s h
      refine x_callV1 (pc := 23) C (mX8_isPlace E l k) cl6 k2 cX8_305 nX8_isPlace sX8_isPlace rfl rfl (Nat.le_of_ble_eq_true rfl) ⟨Nat.le_of_ble_eq_true rfl, Nat.le_of_ble_eq_true rfl, Nat.le_of_ble_eq_true rfl, Nat.le_of_ble_eq_true rfl⟩ dX8_base_23 ?_
      refine x_if_eq (pc := 26) (tgt := 44) C dX8_base_26 (by decide) (fun q => ?_) (fun q => ?_)
      · rw [if_pos q] at h
        exact x_sub (tX8_base_44 C hr h) (xLe_n (xLe_n (xLe_n (xLe_n xLe_0))))
      · rw [if_neg q] at h
        refine x_iload_n (pc := 29) C dX8_base_29 rfl rfl ?_
        refine x_iload_n (pc := 30) C dX8_base_30 rfl rfl ?_
        refine x_icmp_eq (pc := 31) (tgt := 44) C dX8_base_31 (by decide) (fun q => ?_) (fun q => ?_)
        · rw [if_pos q] at h
          exact x_sub (tX8_base_44 C hr h) (xLe_n (xLe_n (xLe_n (xLe_n xLe_0))))
        · rw [if_neg q] at h
          refine x_aload_n (pc := 34) C dX8_base_34 rfl rfl ?_
          refine x_iload_n (pc := 35) C dX8_base_35 rfl rfl ?_
          refine x_iload_n (pc := 36) C dX8_base_36 rfl rfl ?_
          refine x_iload_n (pc := 37) C dX8_base_37 rfl rfl ?_
          obtain ⟨k, h⟩ := chk_s h
          have k2 := k
          obtain ⟨v8, σ9, k, h⟩ := bnd_s h
          refine x_callV1 (pc := 38) C (mX8_baseOf E l k) cl6 k2 cX8_233 nX8_baseOf sX8_baseOf rfl rfl (Nat.le_of_ble_eq_true rfl) ⟨Nat.le_of_ble_eq_true rfl, Nat.le_of_ble_eq_true rfl, Nat.le_of_ble_eq_true rfl, Nat.le_of_ble_eq_true rfl⟩ dX8_base_38 ?_
          refine x_goto (tgt := 45) (pc := 41) C dX8_base_41 (by decide) ?_
          exact x_sub (tX8_base_45 C hr h) (xLe_n (xLe_n (xLe_n (xLe_n xLe_0))))
def DX8_carrierOf (l0 : Nat) (l1 : Int32) (l2 : Int32) (σ : Sg) : Option (Int32 × Sg) :=
  chk (ckO σ 6 l0) <|
  chk (ckV (gR σ l0 20)) <|
  chk (ckI σ (gR σ l0 20) (((0 : Int32) + ((8 : Int32) * l1)) + l2)) <|
  some ((aI σ (gR σ l0 20) (((0 : Int32) + ((8 : Int32) * l1)) + l2).toNatClampNeg), σ)
theorem mX8_carrierOf (E : Ev) (l : Launch) {l0 : Nat} {l1 : Int32} {l2 : Int32} {σ : Sg} {r : Int32} {σ' : Sg} (h : DX8_carrierOf l0 l1 l2 σ = some (r, σ')) : Mt E l yX8_carrierOf cX8_carrierOf 3 (some .int) 1 0 0 [.ref (ad E l0), .int l1, .int l2] σ (some (.int r)) σ' := by
  refine Mt.ofX (by decide) (Nat.le_of_ble_eq_true rfl) (L0 := [some (.ref (ad E l0)), some (.int l1), some (.int l2)]) (xEntN_ok [.ref (ad E l0), .int l1, .int l2] 3) (fun p e s m args below meth c C hr hn => ?_)
  unfold DX8_carrierOf at h
  refine x_aload_n (pc := 0) C dX8_carrierOf_0 rfl rfl ?_
  obtain ⟨k, h⟩ := chk_s h
  have k2 := k
  obtain ⟨k, h⟩ := chk_s h
  refine x_getR (pc := 1) C fX8_37 rfl k2 k dX8_carrierOf_1 ?_
  refine x_iconst (v := 0) (pc := 4) C dX8_carrierOf_4 (by decide) ?_
  refine x_bipush (v := 8) (pc := 5) C dX8_carrierOf_5 (by decide) ?_
  refine x_iload_n (pc := 7) C dX8_carrierOf_7 rfl rfl ?_
  refine x_imul (pc := 8) C dX8_carrierOf_8 ?_
  refine x_iadd (pc := 9) C dX8_carrierOf_9 ?_
  refine x_iload_n (pc := 10) C dX8_carrierOf_10 rfl rfl ?_
  refine x_iadd (pc := 11) C dX8_carrierOf_11 ?_
  obtain ⟨k, h⟩ := chk_s h
  refine x_iald (pc := 12) C k dX8_carrierOf_12 ?_
  cases h
  exact x_iret C hr dX8_carrierOf_13
def DX8_isFlown_23 (s0 : Int32) (σ : Sg) : Option (Int32 × Sg) :=
  chk (ck01 s0) <|
  some (s0, σ)
theorem tX8_isFlown_23 {r : Int32} {σ' : Sg} (C : Cx E p s m args meth c RX8 cX8_isFlown 3) (hr : meth.sig.returnType = (some .boolean)) {s0 : Int32} {σ : Sg} (h : DX8_isFlown_23 s0 σ = some (r, σ')) : Y E p l e (rmA 1 0 0) s m args below meth c (some (.int r)) σ' 0 0 3 0 0 σ 23 [none, none, none] [.int s0] := by
  unfold DX8_isFlown_23 at h
  obtain ⟨kz, h⟩ := chk_s h
  cases h
  exact x_zret C hr (nar_01 kz) dX8_isFlown_23
def DX8_isFlown (l0 : Nat) (l1 : Int32) (l2 : Int32) (σ : Sg) : Option (Int32 × Sg) :=
  chk (ckO σ 6 l0) <|
  chk (ckV (gR σ l0 20)) <|
  chk (ckI σ (gR σ l0 20) (((64 : Int32) + ((8 : Int32) * l1)) + l2)) <|
  if (aI σ (gR σ l0 20) (((64 : Int32) + ((8 : Int32) * l1)) + l2).toNatClampNeg) = (1 : Int32) then
    DX8_isFlown_23 (1 : Int32) σ
  else
    DX8_isFlown_23 (0 : Int32) σ
theorem mX8_isFlown (E : Ev) (l : Launch) {l0 : Nat} {l1 : Int32} {l2 : Int32} {σ : Sg} {r : Int32} {σ' : Sg} (h : DX8_isFlown l0 l1 l2 σ = some (r, σ')) : Mt E l yX8_isFlown cX8_isFlown 3 (some .boolean) 1 0 0 [.ref (ad E l0), .int l1, .int l2] σ (some (.int r)) σ' := by
  refine Mt.ofX (by decide) (Nat.le_of_ble_eq_true rfl) (L0 := [some (.ref (ad E l0)), some (.int l1), some (.int l2)]) (xEntN_ok [.ref (ad E l0), .int l1, .int l2] 3) (fun p e s m args below meth c C hr hn => ?_)
  unfold DX8_isFlown at h
  refine x_aload_n (pc := 0) C dX8_isFlown_0 rfl rfl ?_
  obtain ⟨k, h⟩ := chk_s h
  have k2 := k
  obtain ⟨k, h⟩ := chk_s h
  refine x_getR (pc := 1) C fX8_37 rfl k2 k dX8_isFlown_1 ?_
  refine x_bipush (v := 64) (pc := 4) C dX8_isFlown_4 (by decide) ?_
  refine x_bipush (v := 8) (pc := 6) C dX8_isFlown_6 (by decide) ?_
  refine x_iload_n (pc := 8) C dX8_isFlown_8 rfl rfl ?_
  refine x_imul (pc := 9) C dX8_isFlown_9 ?_
  refine x_iadd (pc := 10) C dX8_isFlown_10 ?_
  refine x_iload_n (pc := 11) C dX8_isFlown_11 rfl rfl ?_
  refine x_iadd (pc := 12) C dX8_isFlown_12 ?_
  obtain ⟨k, h⟩ := chk_s h
  refine x_iald (pc := 13) C k dX8_isFlown_13 ?_
  refine x_iconst (v := 1) (pc := 14) C dX8_isFlown_14 (by decide) ?_
  refine x_icmp_ne (pc := 15) (tgt := 22) C dX8_isFlown_15 (by decide) (fun q => ?_) (fun q => ?_)
  · rw [if_pos q] at h
    refine x_iconst (v := 1) (pc := 18) C dX8_isFlown_18 (by decide) ?_
    refine x_goto (tgt := 23) (pc := 19) C dX8_isFlown_19 (by decide) ?_
    exact x_sub (tX8_isFlown_23 C hr h) (xLe_n (xLe_n (xLe_n xLe_0)))
  · rw [if_neg q] at h
    refine x_iconst (v := 0) (pc := 22) C dX8_isFlown_22 (by decide) ?_
    exact x_sub (tX8_isFlown_23 C hr h) (xLe_n (xLe_n (xLe_n xLe_0)))
def DX8_isRefunded_19 (s0 : Int32) (σ : Sg) : Option (Int32 × Sg) :=
  chk (ck01 s0) <|
  some (s0, σ)
theorem tX8_isRefunded_19 {r : Int32} {σ' : Sg} (C : Cx E p s m args meth c RX8 cX8_isRefunded 2) (hr : meth.sig.returnType = (some .boolean)) {s0 : Int32} {σ : Sg} (h : DX8_isRefunded_19 s0 σ = some (r, σ')) : Y E p l e (rmA 1 0 0) s m args below meth c (some (.int r)) σ' 0 0 2 0 0 σ 19 [none, none] [.int s0] := by
  unfold DX8_isRefunded_19 at h
  obtain ⟨kz, h⟩ := chk_s h
  cases h
  exact x_zret C hr (nar_01 kz) dX8_isRefunded_19
def DX8_isRefunded (l0 : Nat) (l1 : Int32) (σ : Sg) : Option (Int32 × Sg) :=
  chk (ckO σ 6 l0) <|
  chk (ckV (gR σ l0 20)) <|
  chk (ckI σ (gR σ l0 20) ((234 : Int32) + l1)) <|
  if (aI σ (gR σ l0 20) ((234 : Int32) + l1).toNatClampNeg) = (1 : Int32) then
    DX8_isRefunded_19 (1 : Int32) σ
  else
    DX8_isRefunded_19 (0 : Int32) σ
theorem mX8_isRefunded (E : Ev) (l : Launch) {l0 : Nat} {l1 : Int32} {σ : Sg} {r : Int32} {σ' : Sg} (h : DX8_isRefunded l0 l1 σ = some (r, σ')) : Mt E l yX8_isRefunded cX8_isRefunded 2 (some .boolean) 1 0 0 [.ref (ad E l0), .int l1] σ (some (.int r)) σ' := by
  refine Mt.ofX (by decide) (Nat.le_of_ble_eq_true rfl) (L0 := [some (.ref (ad E l0)), some (.int l1)]) (xEntN_ok [.ref (ad E l0), .int l1] 2) (fun p e s m args below meth c C hr hn => ?_)
  unfold DX8_isRefunded at h
  refine x_aload_n (pc := 0) C dX8_isRefunded_0 rfl rfl ?_
  obtain ⟨k, h⟩ := chk_s h
  have k2 := k
  obtain ⟨k, h⟩ := chk_s h
  refine x_getR (pc := 1) C fX8_37 rfl k2 k dX8_isRefunded_1 ?_
  refine x_sipush (v := 234) (pc := 4) C dX8_isRefunded_4 (by decide) ?_
  refine x_iload_n (pc := 7) C dX8_isRefunded_7 rfl rfl ?_
  refine x_iadd (pc := 8) C dX8_isRefunded_8 ?_
  obtain ⟨k, h⟩ := chk_s h
  refine x_iald (pc := 9) C k dX8_isRefunded_9 ?_
  refine x_iconst (v := 1) (pc := 10) C dX8_isRefunded_10 (by decide) ?_
  refine x_icmp_ne (pc := 11) (tgt := 18) C dX8_isRefunded_11 (by decide) (fun q => ?_) (fun q => ?_)
  · rw [if_pos q] at h
    refine x_iconst (v := 1) (pc := 14) C dX8_isRefunded_14 (by decide) ?_
    refine x_goto (tgt := 19) (pc := 15) C dX8_isRefunded_15 (by decide) ?_
    exact x_sub (tX8_isRefunded_19 C hr h) (xLe_n (xLe_n xLe_0))
  · rw [if_neg q] at h
    refine x_iconst (v := 0) (pc := 18) C dX8_isRefunded_18 (by decide) ?_
    exact x_sub (tX8_isRefunded_19 C hr h) (xLe_n (xLe_n xLe_0))
def DX8_couponMiles (l0 : Nat) (l1 : Int32) (l2 : Int32) (σ : Sg) : Option (Int32 × Sg) :=
  chk (ckO σ 6 l0) <|
  chk (ckV (gR σ l0 17)) <|
  chk (ckI σ (gR σ l0 17) (((8 : Int32) * l1) + l2)) <|
  chk (ckO σ 6 l0) <|
  chk (ckV (gR σ l0 18)) <|
  chk (ckI σ (gR σ l0 18) (((8 : Int32) * l1) + l2)) <|
  chk (ckO σ 6 l0) <|
  bnd (DX8_milesOf l0 (aI σ (gR σ l0 17) (((8 : Int32) * l1) + l2).toNatClampNeg) (aI σ (gR σ l0 18) (((8 : Int32) * l1) + l2).toNatClampNeg) σ) fun v1 σ2 =>
  some (v1, σ2)
theorem mX8_couponMiles (E : Ev) (l : Launch) {l0 : Nat} {l1 : Int32} {l2 : Int32} {σ : Sg} {r : Int32} {σ' : Sg} (h : DX8_couponMiles l0 l1 l2 σ = some (r, σ')) : Mt E l yX8_couponMiles cX8_couponMiles 3 (some .int) 2 0 0 [.ref (ad E l0), .int l1, .int l2] σ (some (.int r)) σ' := by
  refine Mt.ofX (by decide) (Nat.le_of_ble_eq_true rfl) (L0 := [some (.ref (ad E l0)), some (.int l1), some (.int l2)]) (xEntN_ok [.ref (ad E l0), .int l1, .int l2] 3) (fun p e s m args below meth c C hr hn => ?_)
  unfold DX8_couponMiles at h
  refine x_aload_n (pc := 0) C dX8_couponMiles_0 rfl rfl ?_
  refine x_aload_n (pc := 1) C dX8_couponMiles_1 rfl rfl ?_
  obtain ⟨k, h⟩ := chk_s h
  have k2 := k
  obtain ⟨k, h⟩ := chk_s h
  refine x_getR (pc := 2) C fX8_28 rfl k2 k dX8_couponMiles_2 ?_
  refine x_bipush (v := 8) (pc := 5) C dX8_couponMiles_5 (by decide) ?_
  refine x_iload_n (pc := 7) C dX8_couponMiles_7 rfl rfl ?_
  refine x_imul (pc := 8) C dX8_couponMiles_8 ?_
  refine x_iload_n (pc := 9) C dX8_couponMiles_9 rfl rfl ?_
  refine x_iadd (pc := 10) C dX8_couponMiles_10 ?_
  obtain ⟨k, h⟩ := chk_s h
  refine x_iald (pc := 11) C k dX8_couponMiles_11 ?_
  refine x_aload_n (pc := 12) C dX8_couponMiles_12 rfl rfl ?_
  obtain ⟨k, h⟩ := chk_s h
  have k2 := k
  obtain ⟨k, h⟩ := chk_s h
  refine x_getR (pc := 13) C fX8_31 rfl k2 k dX8_couponMiles_13 ?_
  refine x_bipush (v := 8) (pc := 16) C dX8_couponMiles_16 (by decide) ?_
  refine x_iload_n (pc := 18) C dX8_couponMiles_18 rfl rfl ?_
  refine x_imul (pc := 19) C dX8_couponMiles_19 ?_
  refine x_iload_n (pc := 20) C dX8_couponMiles_20 rfl rfl ?_
  refine x_iadd (pc := 21) C dX8_couponMiles_21 ?_
  obtain ⟨k, h⟩ := chk_s h
  refine x_iald (pc := 22) C k dX8_couponMiles_22 ?_
  obtain ⟨k, h⟩ := chk_s h
  have k2 := k
  obtain ⟨v1, σ2, k, h⟩ := bnd_s h
  refine x_callV1 (pc := 23) C (mX8_milesOf E l k) cl6 k2 cX8_308 nX8_milesOf sX8_milesOf rfl rfl (Nat.le_of_ble_eq_true rfl) ⟨Nat.le_of_ble_eq_true rfl, Nat.le_of_ble_eq_true rfl, Nat.le_of_ble_eq_true rfl, Nat.le_of_ble_eq_true rfl⟩ dX8_couponMiles_23 ?_
  cases h
  exact x_iret C hr dX8_couponMiles_26
def DX8_factorOf_80 (s0 : Int64) (σ : Sg) : Option (Int64 × Sg) :=
  some (s0, σ)
theorem tX8_factorOf_80 {r : Int64} {σ' : Sg} (C : Cx E p s m args meth c RX8 cX8_factorOf 6) (hr : meth.sig.returnType = (some .long)) {s0 : Int64} {σ : Sg} (h : DX8_factorOf_80 s0 σ = some (r, σ')) : Y E p l e (rmA 3 0 0) s m args below meth c (some (.long r)) σ' 0 0 6 0 0 σ 80 [none, none, none, none, none, none] [.long s0] := by
  unfold DX8_factorOf_80 at h
  cases h
  exact x_lret C hr dX8_factorOf_80
def DX8_factorOf (l0 : Nat) (l1 : Int32) (l2 : Int32) (l3 : Int32) (σ : Sg) : Option (Int64 × Sg) :=
  chk (ckO σ 6 l0) <|
  bnd (DX8_couponMiles l0 l1 l2 σ) fun v1 σ2 =>
  if l3 = 0 then
    chk (ckO σ2 6 l0) <|
    bnd (DX8_weightOf l0 v1 σ2) fun v3 σ4 =>
    some ((v1.toInt64 * v3.toInt64), σ4)
  else
    chk (ckO σ2 6 l0) <|
    bnd (DX8_carrierOf l0 l1 l2 σ2) fun v5 σ6 =>
    chk (ckO σ6 6 l0) <|
    chk (ckV (gR σ6 l0 17)) <|
    chk (ckI σ6 (gR σ6 l0 17) (((8 : Int32) * l1) + l2)) <|
    chk (ckO σ6 6 l0) <|
    chk (ckV (gR σ6 l0 18)) <|
    chk (ckI σ6 (gR σ6 l0 18) (((8 : Int32) * l1) + l2)) <|
    chk (ckO σ6 6 l0) <|
    bnd (DX8_baseOf l0 v5 (aI σ6 (gR σ6 l0 17) (((8 : Int32) * l1) + l2).toNatClampNeg) (aI σ6 (gR σ6 l0 18) (((8 : Int32) * l1) + l2).toNatClampNeg) σ6) fun v7 σ8 =>
    if v7 = (-2 : Int32) then
      chk (ckO σ8 6 l0) <|
      DX8_factorOf_80 (v1.toInt64 * ((gI σ8 l0 10).toInt64)) σ8
    else
      DX8_factorOf_80 v7.toInt64 σ8
theorem mX8_factorOf (E : Ev) (l : Launch) {l0 : Nat} {l1 : Int32} {l2 : Int32} {l3 : Int32} {σ : Sg} {r : Int64} {σ' : Sg} (h : DX8_factorOf l0 l1 l2 l3 σ = some (r, σ')) : Mt E l yX8_factorOf cX8_factorOf 6 (some .long) 3 0 0 [.ref (ad E l0), .int l1, .int l2, .int l3] σ (some (.long r)) σ' := by
  refine Mt.ofX (by decide) (Nat.le_of_ble_eq_true rfl) (L0 := [some (.ref (ad E l0)), some (.int l1), some (.int l2), some (.int l3), none, none]) (xEntN_ok [.ref (ad E l0), .int l1, .int l2, .int l3] 6) (fun p e s m args below meth c C hr hn => ?_)
  unfold DX8_factorOf at h
  refine x_aload_n (pc := 0) C dX8_factorOf_0 rfl rfl ?_
  refine x_iload_n (pc := 1) C dX8_factorOf_1 rfl rfl ?_
  refine x_iload_n (pc := 2) C dX8_factorOf_2 rfl rfl ?_
  obtain ⟨k, h⟩ := chk_s h
  have k2 := k
  obtain ⟨v1, σ2, k, h⟩ := bnd_s h
  refine x_callV1 (pc := 3) C (mX8_couponMiles E l k) cl6 k2 cX8_318 nX8_couponMiles sX8_couponMiles rfl rfl (Nat.le_of_ble_eq_true rfl) ⟨Nat.le_of_ble_eq_true rfl, Nat.le_of_ble_eq_true rfl, Nat.le_of_ble_eq_true rfl, Nat.le_of_ble_eq_true rfl⟩ dX8_factorOf_3 ?_
  refine x_istore (M := [some _, some _, some _, some _, some _, none]) (pc := 6) C dX8_factorOf_6 (by decide) rfl ?_
  refine x_iload_n (pc := 8) C dX8_factorOf_8 rfl rfl ?_
  refine x_if_ne (pc := 9) (tgt := 24) C dX8_factorOf_9 (by decide) (fun q => ?_) (fun q => ?_)
  · rw [if_pos q] at h
    refine x_iload (pc := 12) C dX8_factorOf_12 rfl ?_
    refine x_i2l (pc := 14) C dX8_factorOf_14 ?_
    refine x_aload_n (pc := 15) C dX8_factorOf_15 rfl rfl ?_
    refine x_iload (pc := 16) C dX8_factorOf_16 rfl ?_
    obtain ⟨k, h⟩ := chk_s h
    have k2 := k
    obtain ⟨v3, σ4, k, h⟩ := bnd_s h
    refine x_callV1 (pc := 18) C (mX8_weightOf E l k) cl6 k2 cX8_312 nX8_weightOf sX8_weightOf rfl rfl (Nat.le_of_ble_eq_true rfl) ⟨Nat.le_of_ble_eq_true rfl, Nat.le_of_ble_eq_true rfl, Nat.le_of_ble_eq_true rfl, Nat.le_of_ble_eq_true rfl⟩ dX8_factorOf_18 ?_
    refine x_i2l (pc := 21) C dX8_factorOf_21 ?_
    refine x_lmul (pc := 22) C dX8_factorOf_22 ?_
    cases h
    exact x_lret C hr dX8_factorOf_23
  · rw [if_neg q] at h
    refine x_aload_n (pc := 24) C dX8_factorOf_24 rfl rfl ?_
    refine x_aload_n (pc := 25) C dX8_factorOf_25 rfl rfl ?_
    refine x_iload_n (pc := 26) C dX8_factorOf_26 rfl rfl ?_
    refine x_iload_n (pc := 27) C dX8_factorOf_27 rfl rfl ?_
    obtain ⟨k, h⟩ := chk_s h
    have k2 := k
    obtain ⟨v5, σ6, k, h⟩ := bnd_s h
    refine x_callV1 (pc := 28) C (mX8_carrierOf E l k) cl6 k2 cX8_321 nX8_carrierOf sX8_carrierOf rfl rfl (Nat.le_of_ble_eq_true rfl) ⟨Nat.le_of_ble_eq_true rfl, Nat.le_of_ble_eq_true rfl, Nat.le_of_ble_eq_true rfl, Nat.le_of_ble_eq_true rfl⟩ dX8_factorOf_28 ?_
    refine x_aload_n (pc := 31) C dX8_factorOf_31 rfl rfl ?_
    obtain ⟨k, h⟩ := chk_s h
    have k2 := k
    obtain ⟨k, h⟩ := chk_s h
    refine x_getR (pc := 32) C fX8_28 rfl k2 k dX8_factorOf_32 ?_
    refine x_bipush (v := 8) (pc := 35) C dX8_factorOf_35 (by decide) ?_
    refine x_iload_n (pc := 37) C dX8_factorOf_37 rfl rfl ?_
    refine x_imul (pc := 38) C dX8_factorOf_38 ?_
    refine x_iload_n (pc := 39) C dX8_factorOf_39 rfl rfl ?_
    refine x_iadd (pc := 40) C dX8_factorOf_40 ?_
    obtain ⟨k, h⟩ := chk_s h
    refine x_iald (pc := 41) C k dX8_factorOf_41 ?_
    refine x_aload_n (pc := 42) C dX8_factorOf_42 rfl rfl ?_
    obtain ⟨k, h⟩ := chk_s h
    have k2 := k
    obtain ⟨k, h⟩ := chk_s h
    refine x_getR (pc := 43) C fX8_31 rfl k2 k dX8_factorOf_43 ?_
    refine x_bipush (v := 8) (pc := 46) C dX8_factorOf_46 (by decide) ?_
    refine x_iload_n (pc := 48) C dX8_factorOf_48 rfl rfl ?_
    refine x_imul (pc := 49) C dX8_factorOf_49 ?_
    refine x_iload_n (pc := 50) C dX8_factorOf_50 rfl rfl ?_
    refine x_iadd (pc := 51) C dX8_factorOf_51 ?_
    obtain ⟨k, h⟩ := chk_s h
    refine x_iald (pc := 52) C k dX8_factorOf_52 ?_
    obtain ⟨k, h⟩ := chk_s h
    have k2 := k
    obtain ⟨v7, σ8, k, h⟩ := bnd_s h
    refine x_callV1 (pc := 53) C (mX8_baseOf E l k) cl6 k2 cX8_233 nX8_baseOf sX8_baseOf rfl rfl (Nat.le_of_ble_eq_true rfl) ⟨Nat.le_of_ble_eq_true rfl, Nat.le_of_ble_eq_true rfl, Nat.le_of_ble_eq_true rfl, Nat.le_of_ble_eq_true rfl⟩ dX8_factorOf_53 ?_
    refine x_istore (M := [some _, some _, some _, some _, some _, some _]) (pc := 56) C dX8_factorOf_56 (by decide) rfl ?_
    refine x_iload (pc := 58) C dX8_factorOf_58 rfl ?_
    refine x_bipush (v := -2) (pc := 60) C dX8_factorOf_60 (by decide) ?_
    refine x_icmp_ne (pc := 62) (tgt := 77) C dX8_factorOf_62 (by decide) (fun q => ?_) (fun q => ?_)
    · rw [if_pos q] at h
      refine x_iload (pc := 65) C dX8_factorOf_65 rfl ?_
      refine x_i2l (pc := 67) C dX8_factorOf_67 ?_
      refine x_aload_n (pc := 68) C dX8_factorOf_68 rfl rfl ?_
      obtain ⟨k, h⟩ := chk_s h
      refine x_getI (pc := 69) C fX8_106 rfl k dX8_factorOf_69 ?_
      refine x_i2l (pc := 72) C dX8_factorOf_72 ?_
      refine x_lmul (pc := 73) C dX8_factorOf_73 ?_
      refine x_goto (tgt := 80) (pc := 74) C dX8_factorOf_74 (by decide) ?_
      exact x_sub (tX8_factorOf_80 C hr h) (xLe_n (xLe_n (xLe_n (xLe_n (xLe_n (xLe_n xLe_0))))))
    · rw [if_neg q] at h
      refine x_iload (pc := 77) C dX8_factorOf_77 rfl ?_
      refine x_i2l (pc := 79) C dX8_factorOf_79 ?_
      exact x_sub (tX8_factorOf_80 C hr h) (xLe_n (xLe_n (xLe_n (xLe_n (xLe_n (xLe_n xLe_0))))))
def DX8_holds_146 (σ : Sg) : Option (Int32 × Sg) :=
  chk (ck01 (1 : Int32)) <|
  some ((1 : Int32), σ)
theorem tX8_holds_146 {r : Int32} {σ' : Sg} (C : Cx E p s m args meth c RX8 cX8_holds 6) (hr : meth.sig.returnType = (some .boolean)) {σ : Sg} (h : DX8_holds_146  σ = some (r, σ')) : Y E p l e (rmA 2 0 0) s m args below meth c (some (.int r)) σ' 0 0 6 0 0 σ 146 [none, none, none, none, none, none] [] := by
  unfold DX8_holds_146 at h
  refine x_iconst (v := 1) (pc := 146) C dX8_holds_146 (by decide) ?_
  obtain ⟨kz, h⟩ := chk_s h
  cases h
  exact x_zret C hr (nar_01 kz) dX8_holds_147
def DX8_holds_148 (K109 : Nat → Int32 → Int32 → Int32 → Int32 → Sg → Option (Int32 × Sg)) (l0 : Nat) (l1 : Int32) (l2 : Int32) (l3 : Int32) (l5 : Int32) (σ : Sg) : Option (Int32 × Sg) :=
  K109 l0 l1 l2 l3 (l5 + (1 : Int32)) σ
theorem tX8_holds_148 {r : Int32} {σ' : Sg} (C : Cx E p s m args meth c RX8 cX8_holds 6) (hr : meth.sig.returnType = (some .boolean)) {K109 : Nat → Int32 → Int32 → Int32 → Int32 → Sg → Option (Int32 × Sg)} (hK109 : ∀ (l0 : Nat) (l1 : Int32) (l2 : Int32) (l3 : Int32) (l5 : Int32) (σ : Sg), K109 l0 l1 l2 l3 l5 σ = some (r, σ') → Y E p l e (rmA 2 0 0) s m args below meth c (some (.int r)) σ' 0 0 6 0 0 σ 109 [some (.ref (ad E l0)), some (.int l1), some (.int l2), some (.int l3), none, some (.int l5)] []) {l0 : Nat} {l1 : Int32} {l2 : Int32} {l3 : Int32} {l5 : Int32} {σ : Sg} (h : DX8_holds_148 K109 l0 l1 l2 l3 l5 σ = some (r, σ')) : Y E p l e (rmA 2 0 0) s m args below meth c (some (.int r)) σ' 0 0 6 0 0 σ 148 [some (.ref (ad E l0)), some (.int l1), some (.int l2), some (.int l3), none, some (.int l5)] [] := by
  unfold DX8_holds_148 at h
  refine x_iinc (v := 1) (M := [some _, some _, some _, some _, none, some _]) (pc := 148) C dX8_holds_148 rfl (by decide) (by decide) rfl ?_
  refine x_goto (tgt := 109) (pc := 151) C dX8_holds_151 (by decide) ?_
  exact x_sub (hK109 _ _ _ _ _ _ h) (xLe_s (xLe_s (xLe_s (xLe_s (xLe_n (xLe_s xLe_0))))))
def DX8_holds_154 (σ : Sg) : Option (Int32 × Sg) :=
  chk (ck01 (0 : Int32)) <|
  some ((0 : Int32), σ)
theorem tX8_holds_154 {r : Int32} {σ' : Sg} (C : Cx E p s m args meth c RX8 cX8_holds 6) (hr : meth.sig.returnType = (some .boolean)) {σ : Sg} (h : DX8_holds_154  σ = some (r, σ')) : Y E p l e (rmA 2 0 0) s m args below meth c (some (.int r)) σ' 0 0 6 0 0 σ 154 [none, none, none, none, none, none] [] := by
  unfold DX8_holds_154 at h
  refine x_iconst (v := 0) (pc := 154) C dX8_holds_154 (by decide) ?_
  obtain ⟨kz, h⟩ := chk_s h
  cases h
  exact x_zret C hr (nar_01 kz) dX8_holds_155
def DX8_holds_109 : Nat → Nat → Int32 → Int32 → Int32 → Int32 → Sg → Option (Int32 × Sg)
  | 0, _, _, _, _, _, _ => none
  | n + 1, l0, l1, l2, l3, l5, σ =>
    chk (ckO σ 6 l0) <|
    bnd (DX8_couponsOf l0 l2 σ) fun v1 σ2 =>
    if v1 ≤ l5 then
      DX8_holds_154 σ2
    else
      if l5 = l3 then
        DX8_holds_148 (DX8_holds_109 n) l0 l1 l2 l3 l5 σ2
      else
        chk (ckO σ2 6 l0) <|
        bnd (DX8_carrierOf l0 l2 l5 σ2) fun v3 σ4 =>
        chk (ckO σ4 6 l0) <|
        chk (ckV (gR σ4 l0 14)) <|
        chk (ckI σ4 (gR σ4 l0 14) (((6 : Int32) * l1) + (5 : Int32))) <|
        if v3 = (aI σ4 (gR σ4 l0 14) (((6 : Int32) * l1) + (5 : Int32)).toNatClampNeg) then
          DX8_holds_146 σ4
        else
          DX8_holds_148 (DX8_holds_109 n) l0 l1 l2 l3 l5 σ4
theorem tX8_holds_109 {r : Int32} {σ' : Sg} (C : Cx E p s m args meth c RX8 cX8_holds 6) (hr : meth.sig.returnType = (some .boolean)) : ∀ (n : Nat) (l0 : Nat) (l1 : Int32) (l2 : Int32) (l3 : Int32) (l5 : Int32) (σ : Sg) (h : DX8_holds_109 n l0 l1 l2 l3 l5 σ = some (r, σ')), Y E p l e (rmA 2 0 0) s m args below meth c (some (.int r)) σ' 0 0 6 0 0 σ 109 [some (.ref (ad E l0)), some (.int l1), some (.int l2), some (.int l3), none, some (.int l5)] [] := by
  intro n
  induction n with
  | zero => intro l0 l1 l2 l3 l5 σ h; cases h
  | succ n ih =>
    intro l0 l1 l2 l3 l5 σ h
    unfold DX8_holds_109 at h
    refine x_iload (pc := 109) C dX8_holds_109 rfl ?_
    refine x_aload_n (pc := 111) C dX8_holds_111 rfl rfl ?_
    refine x_iload_n (pc := 112) C dX8_holds_112 rfl rfl ?_
    obtain ⟨k, h⟩ := chk_s h
    have k2 := k
    obtain ⟨v1, σ2, k, h⟩ := bnd_s h
    refine x_callV1 (pc := 113) C (mX8_couponsOf E l k) cl6 k2 cX8_301 nX8_couponsOf sX8_couponsOf rfl rfl (Nat.le_of_ble_eq_true rfl) ⟨Nat.le_of_ble_eq_true rfl, Nat.le_of_ble_eq_true rfl, Nat.le_of_ble_eq_true rfl, Nat.le_of_ble_eq_true rfl⟩ dX8_holds_113 ?_
    refine x_icmp_ge (pc := 116) (tgt := 154) C dX8_holds_116 (by decide) (fun q => ?_) (fun q => ?_)
    · rw [if_pos q] at h
      exact x_sub (tX8_holds_154 C hr h) (xLe_n (xLe_n (xLe_n (xLe_n (xLe_n (xLe_n xLe_0))))))
    · rw [if_neg q] at h
      refine x_iload (pc := 119) C dX8_holds_119 rfl ?_
      refine x_iload_n (pc := 121) C dX8_holds_121 rfl rfl ?_
      refine x_icmp_eq (pc := 122) (tgt := 148) C dX8_holds_122 (by decide) (fun q => ?_) (fun q => ?_)
      · rw [if_pos q] at h
        exact x_sub (tX8_holds_148 C hr ih h) (xLe_s (xLe_s (xLe_s (xLe_s (xLe_n (xLe_s xLe_0))))))
      · rw [if_neg q] at h
        refine x_aload_n (pc := 125) C dX8_holds_125 rfl rfl ?_
        refine x_iload_n (pc := 126) C dX8_holds_126 rfl rfl ?_
        refine x_iload (pc := 127) C dX8_holds_127 rfl ?_
        obtain ⟨k, h⟩ := chk_s h
        have k2 := k
        obtain ⟨v3, σ4, k, h⟩ := bnd_s h
        refine x_callV1 (pc := 129) C (mX8_carrierOf E l k) cl6 k2 cX8_321 nX8_carrierOf sX8_carrierOf rfl rfl (Nat.le_of_ble_eq_true rfl) ⟨Nat.le_of_ble_eq_true rfl, Nat.le_of_ble_eq_true rfl, Nat.le_of_ble_eq_true rfl, Nat.le_of_ble_eq_true rfl⟩ dX8_holds_129 ?_
        refine x_aload_n (pc := 132) C dX8_holds_132 rfl rfl ?_
        obtain ⟨k, h⟩ := chk_s h
        have k2 := k
        obtain ⟨k, h⟩ := chk_s h
        refine x_getR (pc := 133) C fX8_19 rfl k2 k dX8_holds_133 ?_
        refine x_bipush (v := 6) (pc := 136) C dX8_holds_136 (by decide) ?_
        refine x_iload_n (pc := 138) C dX8_holds_138 rfl rfl ?_
        refine x_imul (pc := 139) C dX8_holds_139 ?_
        refine x_iconst (v := 5) (pc := 140) C dX8_holds_140 (by decide) ?_
        refine x_iadd (pc := 141) C dX8_holds_141 ?_
        obtain ⟨k, h⟩ := chk_s h
        refine x_iald (pc := 142) C k dX8_holds_142 ?_
        refine x_icmp_ne (pc := 143) (tgt := 148) C dX8_holds_143 (by decide) (fun q => ?_) (fun q => ?_)
        · rw [if_pos q] at h
          exact x_sub (tX8_holds_146 C hr h) (xLe_n (xLe_n (xLe_n (xLe_n (xLe_n (xLe_n xLe_0))))))
        · rw [if_neg q] at h
          exact x_sub (tX8_holds_148 C hr ih h) (xLe_s (xLe_s (xLe_s (xLe_s (xLe_n (xLe_s xLe_0))))))
def DX8_holds_88 (l0 : Nat) (l1 : Int32) (l2 : Int32) (l3 : Int32) (σ : Sg) : Option (Int32 × Sg) :=
  chk (ckO σ 6 l0) <|
  chk (ckV (gR σ l0 14)) <|
  chk (ckI σ (gR σ l0 14) (((6 : Int32) * l1) + (5 : Int32))) <|
  if (aI σ (gR σ l0 14) (((6 : Int32) * l1) + (5 : Int32)).toNatClampNeg) = (-2 : Int32) then
    chk (ck01 (1 : Int32)) <|
    some ((1 : Int32), σ)
  else
    DX8_holds_109 FU l0 l1 l2 l3 (0 : Int32) σ
theorem tX8_holds_88 {r : Int32} {σ' : Sg} (C : Cx E p s m args meth c RX8 cX8_holds 6) (hr : meth.sig.returnType = (some .boolean)) {l0 : Nat} {l1 : Int32} {l2 : Int32} {l3 : Int32} {σ : Sg} (h : DX8_holds_88 l0 l1 l2 l3 σ = some (r, σ')) : Y E p l e (rmA 2 0 0) s m args below meth c (some (.int r)) σ' 0 0 6 0 0 σ 88 [some (.ref (ad E l0)), some (.int l1), some (.int l2), some (.int l3), none, none] [] := by
  unfold DX8_holds_88 at h
  refine x_aload_n (pc := 88) C dX8_holds_88 rfl rfl ?_
  obtain ⟨k, h⟩ := chk_s h
  have k2 := k
  obtain ⟨k, h⟩ := chk_s h
  refine x_getR (pc := 89) C fX8_19 rfl k2 k dX8_holds_89 ?_
  refine x_bipush (v := 6) (pc := 92) C dX8_holds_92 (by decide) ?_
  refine x_iload_n (pc := 94) C dX8_holds_94 rfl rfl ?_
  refine x_imul (pc := 95) C dX8_holds_95 ?_
  refine x_iconst (v := 5) (pc := 96) C dX8_holds_96 (by decide) ?_
  refine x_iadd (pc := 97) C dX8_holds_97 ?_
  obtain ⟨k, h⟩ := chk_s h
  refine x_iald (pc := 98) C k dX8_holds_98 ?_
  refine x_bipush (v := -2) (pc := 99) C dX8_holds_99 (by decide) ?_
  refine x_icmp_ne (pc := 101) (tgt := 106) C dX8_holds_101 (by decide) (fun q => ?_) (fun q => ?_)
  · rw [if_pos q] at h
    refine x_iconst (v := 1) (pc := 104) C dX8_holds_104 (by decide) ?_
    obtain ⟨kz, h⟩ := chk_s h
    cases h
    exact x_zret C hr (nar_01 kz) dX8_holds_105
  · rw [if_neg q] at h
    refine x_iconst (v := 0) (pc := 106) C dX8_holds_106 (by decide) ?_
    refine x_istore (M := [some _, some _, some _, some _, none, some _]) (pc := 107) C dX8_holds_107 (by decide) rfl ?_
    exact x_sub (tX8_holds_109 C hr FU _ _ _ _ _ _ h) (xLe_s (xLe_s (xLe_s (xLe_s (xLe_n (xLe_s xLe_0))))))
def DX8_holds (l0 : Nat) (l1 : Int32) (l2 : Int32) (l3 : Int32) (σ : Sg) : Option (Int32 × Sg) :=
  chk (ckO σ 6 l0) <|
  chk (ckV (gR σ l0 14)) <|
  chk (ckI σ (gR σ l0 14) ((6 : Int32) * l1)) <|
  chk (ckO σ 6 l0) <|
  bnd (DX8_carrierOf l0 l2 l3 σ) fun v1 σ2 =>
  if (aI σ (gR σ l0 14) ((6 : Int32) * l1).toNatClampNeg) = v1 then
    chk (ckO σ2 6 l0) <|
    chk (ckV (gR σ2 l0 14)) <|
    chk (ckI σ2 (gR σ2 l0 14) (((6 : Int32) * l1) + (1 : Int32))) <|
    if (aI σ2 (gR σ2 l0 14) (((6 : Int32) * l1) + (1 : Int32)).toNatClampNeg) = (-2 : Int32) then
      DX8_holds_88 l0 l1 l2 l3 σ2
    else
      chk (ckO σ2 6 l0) <|
      chk (ckV (gR σ2 l0 14)) <|
      chk (ckI σ2 (gR σ2 l0 14) (((6 : Int32) * l1) + (1 : Int32))) <|
      chk (ckO σ2 6 l0) <|
      chk (ckV (gR σ2 l0 14)) <|
      chk (ckI σ2 (gR σ2 l0 14) (((6 : Int32) * l1) + (2 : Int32))) <|
      chk (ckO σ2 6 l0) <|
      chk (ckV (gR σ2 l0 17)) <|
      chk (ckI σ2 (gR σ2 l0 17) (((8 : Int32) * l2) + l3)) <|
      chk (ckO σ2 6 l0) <|
      chk (ckV (gR σ2 l0 18)) <|
      chk (ckI σ2 (gR σ2 l0 18) (((8 : Int32) * l2) + l3)) <|
      bnd (DX8_arePair (aI σ2 (gR σ2 l0 14) (((6 : Int32) * l1) + (1 : Int32)).toNatClampNeg) (aI σ2 (gR σ2 l0 14) (((6 : Int32) * l1) + (2 : Int32)).toNatClampNeg) (aI σ2 (gR σ2 l0 17) (((8 : Int32) * l2) + l3).toNatClampNeg) (aI σ2 (gR σ2 l0 18) (((8 : Int32) * l2) + l3).toNatClampNeg) σ2) fun v3 σ4 =>
      if v3 = 0 then
        chk (ck01 (0 : Int32)) <|
        some ((0 : Int32), σ4)
      else
        DX8_holds_88 l0 l1 l2 l3 σ4
  else
    chk (ck01 (0 : Int32)) <|
    some ((0 : Int32), σ2)
theorem mX8_holds (E : Ev) (l : Launch) {l0 : Nat} {l1 : Int32} {l2 : Int32} {l3 : Int32} {σ : Sg} {r : Int32} {σ' : Sg} (h : DX8_holds l0 l1 l2 l3 σ = some (r, σ')) : Mt E l yX8_holds cX8_holds 6 (some .boolean) 2 0 0 [.ref (ad E l0), .int l1, .int l2, .int l3] σ (some (.int r)) σ' := by
  refine Mt.ofX (by decide) (Nat.le_of_ble_eq_true rfl) (L0 := [some (.ref (ad E l0)), some (.int l1), some (.int l2), some (.int l3), none, none]) (xEntN_ok [.ref (ad E l0), .int l1, .int l2, .int l3] 6) (fun p e s m args below meth c C hr hn => ?_)
  unfold DX8_holds at h
  refine x_bipush (v := 8) (pc := 0) C dX8_holds_0 (by decide) ?_
  refine x_iload_n (pc := 2) C dX8_holds_2 rfl rfl ?_
  refine x_imul (pc := 3) C dX8_holds_3 ?_
  refine x_iload_n (pc := 4) C dX8_holds_4 rfl rfl ?_
  refine x_iadd (pc := 5) C dX8_holds_5 ?_
  refine x_istore (M := [some _, some _, some _, some _, some _, none]) (pc := 6) C dX8_holds_6 (by decide) rfl ?_
  refine x_aload_n (pc := 8) C dX8_holds_8 rfl rfl ?_
  obtain ⟨k, h⟩ := chk_s h
  have k2 := k
  obtain ⟨k, h⟩ := chk_s h
  refine x_getR (pc := 9) C fX8_19 rfl k2 k dX8_holds_9 ?_
  refine x_bipush (v := 6) (pc := 12) C dX8_holds_12 (by decide) ?_
  refine x_iload_n (pc := 14) C dX8_holds_14 rfl rfl ?_
  refine x_imul (pc := 15) C dX8_holds_15 ?_
  obtain ⟨k, h⟩ := chk_s h
  refine x_iald (pc := 16) C k dX8_holds_16 ?_
  refine x_aload_n (pc := 17) C dX8_holds_17 rfl rfl ?_
  refine x_iload_n (pc := 18) C dX8_holds_18 rfl rfl ?_
  refine x_iload_n (pc := 19) C dX8_holds_19 rfl rfl ?_
  obtain ⟨k, h⟩ := chk_s h
  have k2 := k
  obtain ⟨v1, σ2, k, h⟩ := bnd_s h
  refine x_callV1 (pc := 20) C (mX8_carrierOf E l k) cl6 k2 cX8_321 nX8_carrierOf sX8_carrierOf rfl rfl (Nat.le_of_ble_eq_true rfl) ⟨Nat.le_of_ble_eq_true rfl, Nat.le_of_ble_eq_true rfl, Nat.le_of_ble_eq_true rfl, Nat.le_of_ble_eq_true rfl⟩ dX8_holds_20 ?_
  refine x_icmp_eq (pc := 23) (tgt := 28) C dX8_holds_23 (by decide) (fun q => ?_) (fun q => ?_)
  · rw [if_pos q] at h
    refine x_aload_n (pc := 28) C dX8_holds_28 rfl rfl ?_
    obtain ⟨k, h⟩ := chk_s h
    have k2 := k
    obtain ⟨k, h⟩ := chk_s h
    refine x_getR (pc := 29) C fX8_19 rfl k2 k dX8_holds_29 ?_
    refine x_bipush (v := 6) (pc := 32) C dX8_holds_32 (by decide) ?_
    refine x_iload_n (pc := 34) C dX8_holds_34 rfl rfl ?_
    refine x_imul (pc := 35) C dX8_holds_35 ?_
    refine x_iconst (v := 1) (pc := 36) C dX8_holds_36 (by decide) ?_
    refine x_iadd (pc := 37) C dX8_holds_37 ?_
    obtain ⟨k, h⟩ := chk_s h
    refine x_iald (pc := 38) C k dX8_holds_38 ?_
    refine x_bipush (v := -2) (pc := 39) C dX8_holds_39 (by decide) ?_
    refine x_icmp_eq (pc := 41) (tgt := 88) C dX8_holds_41 (by decide) (fun q => ?_) (fun q => ?_)
    · rw [if_pos q] at h
      exact x_sub (tX8_holds_88 C hr h) (xLe_s (xLe_s (xLe_s (xLe_s (xLe_n (xLe_n xLe_0))))))
    · rw [if_neg q] at h
      refine x_aload_n (pc := 44) C dX8_holds_44 rfl rfl ?_
      obtain ⟨k, h⟩ := chk_s h
      have k2 := k
      obtain ⟨k, h⟩ := chk_s h
      refine x_getR (pc := 45) C fX8_19 rfl k2 k dX8_holds_45 ?_
      refine x_bipush (v := 6) (pc := 48) C dX8_holds_48 (by decide) ?_
      refine x_iload_n (pc := 50) C dX8_holds_50 rfl rfl ?_
      refine x_imul (pc := 51) C dX8_holds_51 ?_
      refine x_iconst (v := 1) (pc := 52) C dX8_holds_52 (by decide) ?_
      refine x_iadd (pc := 53) C dX8_holds_53 ?_
      obtain ⟨k, h⟩ := chk_s h
      refine x_iald (pc := 54) C k dX8_holds_54 ?_
      refine x_aload_n (pc := 55) C dX8_holds_55 rfl rfl ?_
      obtain ⟨k, h⟩ := chk_s h
      have k2 := k
      obtain ⟨k, h⟩ := chk_s h
      refine x_getR (pc := 56) C fX8_19 rfl k2 k dX8_holds_56 ?_
      refine x_bipush (v := 6) (pc := 59) C dX8_holds_59 (by decide) ?_
      refine x_iload_n (pc := 61) C dX8_holds_61 rfl rfl ?_
      refine x_imul (pc := 62) C dX8_holds_62 ?_
      refine x_iconst (v := 2) (pc := 63) C dX8_holds_63 (by decide) ?_
      refine x_iadd (pc := 64) C dX8_holds_64 ?_
      obtain ⟨k, h⟩ := chk_s h
      refine x_iald (pc := 65) C k dX8_holds_65 ?_
      refine x_aload_n (pc := 66) C dX8_holds_66 rfl rfl ?_
      obtain ⟨k, h⟩ := chk_s h
      have k2 := k
      obtain ⟨k, h⟩ := chk_s h
      refine x_getR (pc := 67) C fX8_28 rfl k2 k dX8_holds_67 ?_
      refine x_iload (pc := 70) C dX8_holds_70 rfl ?_
      obtain ⟨k, h⟩ := chk_s h
      refine x_iald (pc := 72) C k dX8_holds_72 ?_
      refine x_aload_n (pc := 73) C dX8_holds_73 rfl rfl ?_
      obtain ⟨k, h⟩ := chk_s h
      have k2 := k
      obtain ⟨k, h⟩ := chk_s h
      refine x_getR (pc := 74) C fX8_31 rfl k2 k dX8_holds_74 ?_
      refine x_iload (pc := 77) C dX8_holds_77 rfl ?_
      obtain ⟨k, h⟩ := chk_s h
      refine x_iald (pc := 79) C k dX8_holds_79 ?_
      obtain ⟨v3, σ4, k, h⟩ := bnd_s h
      refine x_callS1 (pc := 80) C (mX8_arePair E l k) cX8_209 zX8_arePair rfl rfl (Nat.le_of_ble_eq_true rfl) ⟨Nat.le_of_ble_eq_true rfl, Nat.le_of_ble_eq_true rfl, Nat.le_of_ble_eq_true rfl, Nat.le_of_ble_eq_true rfl⟩ dX8_holds_80 ?_
      refine x_if_ne (pc := 83) (tgt := 88) C dX8_holds_83 (by decide) (fun q => ?_) (fun q => ?_)
      · rw [if_pos q] at h
        refine x_iconst (v := 0) (pc := 86) C dX8_holds_86 (by decide) ?_
        obtain ⟨kz, h⟩ := chk_s h
        cases h
        exact x_zret C hr (nar_01 kz) dX8_holds_87
      · rw [if_neg q] at h
        exact x_sub (tX8_holds_88 C hr h) (xLe_s (xLe_s (xLe_s (xLe_s (xLe_n (xLe_n xLe_0))))))
  · rw [if_neg q] at h
    refine x_iconst (v := 0) (pc := 26) C dX8_holds_26 (by decide) ?_
    obtain ⟨kz, h⟩ := chk_s h
    cases h
    exact x_zret C hr (nar_01 kz) dX8_holds_27
def DX8_holding_29 (l4 : Int32) (σ : Sg) : Option (Int32 × Sg) :=
  some (l4, σ)
theorem tX8_holding_29 {r : Int32} {σ' : Sg} (C : Cx E p s m args meth c RX8 cX8_holding 5) (hr : meth.sig.returnType = (some .int)) {l4 : Int32} {σ : Sg} (h : DX8_holding_29 l4 σ = some (r, σ')) : Y E p l e (rmA 3 0 0) s m args below meth c (some (.int r)) σ' 0 0 5 0 0 σ 29 [none, none, none, none, some (.int l4)] [] := by
  unfold DX8_holding_29 at h
  refine x_iload (pc := 29) C dX8_holding_29 rfl ?_
  cases h
  exact x_iret C hr dX8_holding_31
def DX8_holding_32 (K3 : Nat → Int32 → Int32 → Int32 → Int32 → Sg → Option (Int32 × Sg)) (l0 : Nat) (l1 : Int32) (l2 : Int32) (l3 : Int32) (l4 : Int32) (σ : Sg) : Option (Int32 × Sg) :=
  K3 l0 l1 l2 l3 (l4 + (1 : Int32)) σ
theorem tX8_holding_32 {r : Int32} {σ' : Sg} (C : Cx E p s m args meth c RX8 cX8_holding 5) (hr : meth.sig.returnType = (some .int)) {K3 : Nat → Int32 → Int32 → Int32 → Int32 → Sg → Option (Int32 × Sg)} (hK3 : ∀ (l0 : Nat) (l1 : Int32) (l2 : Int32) (l3 : Int32) (l4 : Int32) (σ : Sg), K3 l0 l1 l2 l3 l4 σ = some (r, σ') → Y E p l e (rmA 3 0 0) s m args below meth c (some (.int r)) σ' 0 0 5 0 0 σ 3 [some (.ref (ad E l0)), some (.int l1), some (.int l2), some (.int l3), some (.int l4)] []) {l0 : Nat} {l1 : Int32} {l2 : Int32} {l3 : Int32} {l4 : Int32} {σ : Sg} (h : DX8_holding_32 K3 l0 l1 l2 l3 l4 σ = some (r, σ')) : Y E p l e (rmA 3 0 0) s m args below meth c (some (.int r)) σ' 0 0 5 0 0 σ 32 [some (.ref (ad E l0)), some (.int l1), some (.int l2), some (.int l3), some (.int l4)] [] := by
  unfold DX8_holding_32 at h
  refine x_iinc (v := 1) (M := [some _, some _, some _, some _, some _]) (pc := 32) C dX8_holding_32 rfl (by decide) (by decide) rfl ?_
  refine x_goto (tgt := 3) (pc := 35) C dX8_holding_35 (by decide) ?_
  exact x_sub (hK3 _ _ _ _ _ _ h) (xLe_s (xLe_s (xLe_s (xLe_s (xLe_s xLe_0)))))
def DX8_holding_38 (σ : Sg) : Option (Int32 × Sg) :=
  some ((-2 : Int32), σ)
theorem tX8_holding_38 {r : Int32} {σ' : Sg} (C : Cx E p s m args meth c RX8 cX8_holding 5) (hr : meth.sig.returnType = (some .int)) {σ : Sg} (h : DX8_holding_38  σ = some (r, σ')) : Y E p l e (rmA 3 0 0) s m args below meth c (some (.int r)) σ' 0 0 5 0 0 σ 38 [none, none, none, none, none] [] := by
  unfold DX8_holding_38 at h
  refine x_bipush (v := -2) (pc := 38) C dX8_holding_38 (by decide) ?_
  cases h
  exact x_iret C hr dX8_holding_40
def DX8_holding_3 : Nat → Nat → Int32 → Int32 → Int32 → Int32 → Sg → Option (Int32 × Sg)
  | 0, _, _, _, _, _, _ => none
  | n + 1, l0, l1, l2, l3, l4, σ =>
    chk (ckO σ 6 l0) <|
    if (gI σ l0 7) ≤ l4 then
      DX8_holding_38 σ
    else
      if l4 = l3 then
        DX8_holding_32 (DX8_holding_3 n) l0 l1 l2 l3 l4 σ
      else
        chk (ckO σ 6 l0) <|
        bnd (DX8_holds l0 l4 l1 l2 σ) fun v1 σ2 =>
        if v1 = 0 then
          DX8_holding_32 (DX8_holding_3 n) l0 l1 l2 l3 l4 σ2
        else
          DX8_holding_29 l4 σ2
theorem tX8_holding_3 {r : Int32} {σ' : Sg} (C : Cx E p s m args meth c RX8 cX8_holding 5) (hr : meth.sig.returnType = (some .int)) : ∀ (n : Nat) (l0 : Nat) (l1 : Int32) (l2 : Int32) (l3 : Int32) (l4 : Int32) (σ : Sg) (h : DX8_holding_3 n l0 l1 l2 l3 l4 σ = some (r, σ')), Y E p l e (rmA 3 0 0) s m args below meth c (some (.int r)) σ' 0 0 5 0 0 σ 3 [some (.ref (ad E l0)), some (.int l1), some (.int l2), some (.int l3), some (.int l4)] [] := by
  intro n
  induction n with
  | zero => intro l0 l1 l2 l3 l4 σ h; cases h
  | succ n ih =>
    intro l0 l1 l2 l3 l4 σ h
    unfold DX8_holding_3 at h
    refine x_iload (pc := 3) C dX8_holding_3 rfl ?_
    refine x_aload_n (pc := 5) C dX8_holding_5 rfl rfl ?_
    obtain ⟨k, h⟩ := chk_s h
    refine x_getI (pc := 6) C fX8_223 rfl k dX8_holding_6 ?_
    refine x_icmp_ge (pc := 9) (tgt := 38) C dX8_holding_9 (by decide) (fun q => ?_) (fun q => ?_)
    · rw [if_pos q] at h
      exact x_sub (tX8_holding_38 C hr h) (xLe_n (xLe_n (xLe_n (xLe_n (xLe_n xLe_0)))))
    · rw [if_neg q] at h
      refine x_iload (pc := 12) C dX8_holding_12 rfl ?_
      refine x_iload_n (pc := 14) C dX8_holding_14 rfl rfl ?_
      refine x_icmp_eq (pc := 15) (tgt := 32) C dX8_holding_15 (by decide) (fun q => ?_) (fun q => ?_)
      · rw [if_pos q] at h
        exact x_sub (tX8_holding_32 C hr ih h) (xLe_s (xLe_s (xLe_s (xLe_s (xLe_s xLe_0)))))
      · rw [if_neg q] at h
        refine x_aload_n (pc := 18) C dX8_holding_18 rfl rfl ?_
        refine x_iload (pc := 19) C dX8_holding_19 rfl ?_
        refine x_iload_n (pc := 21) C dX8_holding_21 rfl rfl ?_
        refine x_iload_n (pc := 22) C dX8_holding_22 rfl rfl ?_
        obtain ⟨k, h⟩ := chk_s h
        have k2 := k
        obtain ⟨v1, σ2, k, h⟩ := bnd_s h
        refine x_callV1 (pc := 23) C (mX8_holds E l k) cl6 k2 cX8_324 nX8_holds sX8_holds rfl rfl (Nat.le_of_ble_eq_true rfl) ⟨Nat.le_of_ble_eq_true rfl, Nat.le_of_ble_eq_true rfl, Nat.le_of_ble_eq_true rfl, Nat.le_of_ble_eq_true rfl⟩ dX8_holding_23 ?_
        refine x_if_eq (pc := 26) (tgt := 32) C dX8_holding_26 (by decide) (fun q => ?_) (fun q => ?_)
        · rw [if_pos q] at h
          exact x_sub (tX8_holding_32 C hr ih h) (xLe_s (xLe_s (xLe_s (xLe_s (xLe_s xLe_0)))))
        · rw [if_neg q] at h
          exact x_sub (tX8_holding_29 C hr h) (xLe_n (xLe_n (xLe_n (xLe_n (xLe_s xLe_0)))))
def DX8_holding (l0 : Nat) (l1 : Int32) (l2 : Int32) (l3 : Int32) (σ : Sg) : Option (Int32 × Sg) :=
  DX8_holding_3 FU l0 l1 l2 l3 (0 : Int32) σ
theorem mX8_holding (E : Ev) (l : Launch) {l0 : Nat} {l1 : Int32} {l2 : Int32} {l3 : Int32} {σ : Sg} {r : Int32} {σ' : Sg} (h : DX8_holding l0 l1 l2 l3 σ = some (r, σ')) : Mt E l yX8_holding cX8_holding 5 (some .int) 3 0 0 [.ref (ad E l0), .int l1, .int l2, .int l3] σ (some (.int r)) σ' := by
  refine Mt.ofX (by decide) (Nat.le_of_ble_eq_true rfl) (L0 := [some (.ref (ad E l0)), some (.int l1), some (.int l2), some (.int l3), none]) (xEntN_ok [.ref (ad E l0), .int l1, .int l2, .int l3] 5) (fun p e s m args below meth c C hr hn => ?_)
  unfold DX8_holding at h
  refine x_iconst (v := 0) (pc := 0) C dX8_holding_0 (by decide) ?_
  refine x_istore (M := [some _, some _, some _, some _, some _]) (pc := 1) C dX8_holding_1 (by decide) rfl ?_
  exact x_sub (tX8_holding_3 C hr FU _ _ _ _ _ _ h) (xLe_s (xLe_s (xLe_s (xLe_s (xLe_s xLe_0)))))
def DX8_fare (l0 : Nat) (l1 : Int32) (σ : Sg) : Option (Int64 × Sg) :=
  chk (ckO σ 6 l0) <|
  chk (ckV (gR σ l0 16)) <|
  chk (ckI σ (gR σ l0 16) ((4 : Int32) * l1)) <|
  some ((aI σ (gR σ l0 16) ((4 : Int32) * l1).toNatClampNeg).toInt64, σ)
theorem mX8_fare (E : Ev) (l : Launch) {l0 : Nat} {l1 : Int32} {σ : Sg} {r : Int64} {σ' : Sg} (h : DX8_fare l0 l1 σ = some (r, σ')) : Mt E l yX8_fare cX8_fare 2 (some .long) 1 0 0 [.ref (ad E l0), .int l1] σ (some (.long r)) σ' := by
  refine Mt.ofX (by decide) (Nat.le_of_ble_eq_true rfl) (L0 := [some (.ref (ad E l0)), some (.int l1)]) (xEntN_ok [.ref (ad E l0), .int l1] 2) (fun p e s m args below meth c C hr hn => ?_)
  unfold DX8_fare at h
  refine x_aload_n (pc := 0) C dX8_fare_0 rfl rfl ?_
  obtain ⟨k, h⟩ := chk_s h
  have k2 := k
  obtain ⟨k, h⟩ := chk_s h
  refine x_getR (pc := 1) C fX8_25 rfl k2 k dX8_fare_1 ?_
  refine x_iconst (v := 4) (pc := 4) C dX8_fare_4 (by decide) ?_
  refine x_iload_n (pc := 5) C dX8_fare_5 rfl rfl ?_
  refine x_imul (pc := 6) C dX8_fare_6 ?_
  obtain ⟨k, h⟩ := chk_s h
  refine x_iald (pc := 7) C k dX8_fare_7 ?_
  refine x_i2l (pc := 8) C dX8_fare_8 ?_
  cases h
  exact x_lret C hr dX8_fare_9
def DX8_isFirst_15 (s0 : Int32) (σ : Sg) : Option (Int32 × Sg) :=
  chk (ck01 s0) <|
  some (s0, σ)
theorem tX8_isFirst_15 {r : Int32} {σ' : Sg} (C : Cx E p s m args meth c RX8 cX8_isFirst 1) (hr : meth.sig.returnType = (some .boolean)) {s0 : Int32} {σ : Sg} (h : DX8_isFirst_15 s0 σ = some (r, σ')) : Y E p l e (rmA 1 0 0) s m args below meth c (some (.int r)) σ' 0 0 1 0 0 σ 15 [none] [.int s0] := by
  unfold DX8_isFirst_15 at h
  obtain ⟨kz, h⟩ := chk_s h
  cases h
  exact x_zret C hr (nar_01 kz) dX8_isFirst_15
def DX8_isFirst_10 (σ : Sg) : Option (Int32 × Sg) :=
  DX8_isFirst_15 (1 : Int32) σ
theorem tX8_isFirst_10 {r : Int32} {σ' : Sg} (C : Cx E p s m args meth c RX8 cX8_isFirst 1) (hr : meth.sig.returnType = (some .boolean)) {σ : Sg} (h : DX8_isFirst_10  σ = some (r, σ')) : Y E p l e (rmA 1 0 0) s m args below meth c (some (.int r)) σ' 0 0 1 0 0 σ 10 [none] [] := by
  unfold DX8_isFirst_10 at h
  refine x_iconst (v := 1) (pc := 10) C dX8_isFirst_10 (by decide) ?_
  refine x_goto (tgt := 15) (pc := 11) C dX8_isFirst_11 (by decide) ?_
  exact x_sub (tX8_isFirst_15 C hr h) (xLe_n xLe_0)
def DX8_isFirst (l0 : Int32) (σ : Sg) : Option (Int32 × Sg) :=
  if l0 = (1 : Int32) then
    DX8_isFirst_10 σ
  else
    if l0 = (2 : Int32) then
      DX8_isFirst_10 σ
    else
      DX8_isFirst_15 (0 : Int32) σ
theorem mX8_isFirst (E : Ev) (l : Launch) {l0 : Int32} {σ : Sg} {r : Int32} {σ' : Sg} (h : DX8_isFirst l0 σ = some (r, σ')) : Mt E l yX8_isFirst cX8_isFirst 1 (some .boolean) 1 0 0 [.int l0] σ (some (.int r)) σ' := by
  refine Mt.ofX (by decide) (Nat.le_of_ble_eq_true rfl) (L0 := [some (.int l0)]) (xEntN_ok [.int l0] 1) (fun p e s m args below meth c C hr hn => ?_)
  unfold DX8_isFirst at h
  refine x_iload_n (pc := 0) C dX8_isFirst_0 rfl rfl ?_
  refine x_iconst (v := 1) (pc := 1) C dX8_isFirst_1 (by decide) ?_
  refine x_icmp_eq (pc := 2) (tgt := 10) C dX8_isFirst_2 (by decide) (fun q => ?_) (fun q => ?_)
  · rw [if_pos q] at h
    exact x_sub (tX8_isFirst_10 C hr h) (xLe_n xLe_0)
  · rw [if_neg q] at h
    refine x_iload_n (pc := 5) C dX8_isFirst_5 rfl rfl ?_
    refine x_iconst (v := 2) (pc := 6) C dX8_isFirst_6 (by decide) ?_
    refine x_icmp_ne (pc := 7) (tgt := 14) C dX8_isFirst_7 (by decide) (fun q => ?_) (fun q => ?_)
    · rw [if_pos q] at h
      exact x_sub (tX8_isFirst_10 C hr h) (xLe_n xLe_0)
    · rw [if_neg q] at h
      refine x_iconst (v := 0) (pc := 14) C dX8_isFirst_14 (by decide) ?_
      exact x_sub (tX8_isFirst_15 C hr h) (xLe_n xLe_0)
def DX8_freeFactors_33 (K5 : Nat → Int32 → Int64 → Int32 → Sg → Option (Int64 × Sg)) (l0 : Nat) (l1 : Int32) (l4 : Int32) (s0 : Int64) (s1 : Int64) (σ : Sg) : Option (Int64 × Sg) :=
  K5 l0 l1 (s0 + s1) (l4 + (1 : Int32)) σ
theorem tX8_freeFactors_33 {r : Int64} {σ' : Sg} (C : Cx E p s m args meth c RX8 cX8_freeFactors 5) (hr : meth.sig.returnType = (some .long)) {K5 : Nat → Int32 → Int64 → Int32 → Sg → Option (Int64 × Sg)} (hK5 : ∀ (l0 : Nat) (l1 : Int32) (l2 : Int64) (l4 : Int32) (σ : Sg), K5 l0 l1 l2 l4 σ = some (r, σ') → Y E p l e (rmA 1 0 0) s m args below meth c (some (.long r)) σ' 0 0 5 0 0 σ 5 [some (.ref (ad E l0)), some (.int l1), some (.long l2), none, some (.int l4)] []) {l0 : Nat} {l1 : Int32} {l4 : Int32} {s0 : Int64} {s1 : Int64} {σ : Sg} (h : DX8_freeFactors_33 K5 l0 l1 l4 s0 s1 σ = some (r, σ')) : Y E p l e (rmA 1 0 0) s m args below meth c (some (.long r)) σ' 0 0 5 0 0 σ 33 [some (.ref (ad E l0)), some (.int l1), none, none, some (.int l4)] [.long s1, .long s0] := by
  unfold DX8_freeFactors_33 at h
  refine x_ladd (pc := 33) C dX8_freeFactors_33 ?_
  refine x_lstore_n (M := [some _, some _, some _, none, some _]) (pc := 34) C dX8_freeFactors_34 rfl (by decide) rfl ?_
  refine x_iinc (v := 1) (M := [some _, some _, some _, none, some _]) (pc := 35) C dX8_freeFactors_35 rfl (by decide) (by decide) rfl ?_
  refine x_goto (tgt := 5) (pc := 38) C dX8_freeFactors_38 (by decide) ?_
  exact x_sub (hK5 _ _ _ _ _ h) (xLe_s (xLe_s (xLe_s (xLe_n (xLe_s xLe_0)))))
def DX8_freeFactors_41 (l2 : Int64) (σ : Sg) : Option (Int64 × Sg) :=
  some (l2, σ)
theorem tX8_freeFactors_41 {r : Int64} {σ' : Sg} (C : Cx E p s m args meth c RX8 cX8_freeFactors 5) (hr : meth.sig.returnType = (some .long)) {l2 : Int64} {σ : Sg} (h : DX8_freeFactors_41 l2 σ = some (r, σ')) : Y E p l e (rmA 1 0 0) s m args below meth c (some (.long r)) σ' 0 0 5 0 0 σ 41 [none, none, some (.long l2), none, none] [] := by
  unfold DX8_freeFactors_41 at h
  refine x_lload_n (pc := 41) C dX8_freeFactors_41 rfl rfl ?_
  cases h
  exact x_lret C hr dX8_freeFactors_42
def DX8_freeFactors_5 : Nat → Nat → Int32 → Int64 → Int32 → Sg → Option (Int64 × Sg)
  | 0, _, _, _, _, _ => none
  | n + 1, l0, l1, l2, l4, σ =>
    if l1 ≤ l4 then
      DX8_freeFactors_41 l2 σ
    else
      chk (ckO σ 6 l0) <|
      chk (ckV (gR σ l0 46)) <|
      chk (ckZ σ (gR σ l0 46) l4) <|
      if (aI σ (gR σ l0 46) l4.toNatClampNeg) = 0 then
        DX8_freeFactors_33 (DX8_freeFactors_5 n) l0 l1 l4 l2 (0 : Int64) σ
      else
        chk (ckO σ 6 l0) <|
        chk (ckV (gR σ l0 42)) <|
        chk (ckJ σ (gR σ l0 42) l4) <|
        DX8_freeFactors_33 (DX8_freeFactors_5 n) l0 l1 l4 l2 (aJ σ (gR σ l0 42) l4.toNatClampNeg) σ
theorem tX8_freeFactors_5 {r : Int64} {σ' : Sg} (C : Cx E p s m args meth c RX8 cX8_freeFactors 5) (hr : meth.sig.returnType = (some .long)) : ∀ (n : Nat) (l0 : Nat) (l1 : Int32) (l2 : Int64) (l4 : Int32) (σ : Sg) (h : DX8_freeFactors_5 n l0 l1 l2 l4 σ = some (r, σ')), Y E p l e (rmA 1 0 0) s m args below meth c (some (.long r)) σ' 0 0 5 0 0 σ 5 [some (.ref (ad E l0)), some (.int l1), some (.long l2), none, some (.int l4)] [] := by
  intro n
  induction n with
  | zero => intro l0 l1 l2 l4 σ h; cases h
  | succ n ih =>
    intro l0 l1 l2 l4 σ h
    unfold DX8_freeFactors_5 at h
    refine x_iload (pc := 5) C dX8_freeFactors_5 rfl ?_
    refine x_iload_n (pc := 7) C dX8_freeFactors_7 rfl rfl ?_
    refine x_icmp_ge (pc := 8) (tgt := 41) C dX8_freeFactors_8 (by decide) (fun q => ?_) (fun q => ?_)
    · rw [if_pos q] at h
      exact x_sub (tX8_freeFactors_41 C hr h) (xLe_n (xLe_n (xLe_s (xLe_n (xLe_n xLe_0)))))
    · rw [if_neg q] at h
      refine x_lload_n (pc := 11) C dX8_freeFactors_11 rfl rfl ?_
      refine x_aload_n (pc := 12) C dX8_freeFactors_12 rfl rfl ?_
      obtain ⟨k, h⟩ := chk_s h
      have k2 := k
      obtain ⟨k, h⟩ := chk_s h
      refine x_getR (pc := 13) C fX8_84 rfl k2 k dX8_freeFactors_13 ?_
      refine x_iload (pc := 16) C dX8_freeFactors_16 rfl ?_
      obtain ⟨k, h⟩ := chk_s h
      refine x_zald (pc := 18) C k dX8_freeFactors_18 ?_
      refine x_if_eq (pc := 19) (tgt := 32) C dX8_freeFactors_19 (by decide) (fun q => ?_) (fun q => ?_)
      · rw [if_pos q] at h
        refine x_lconst (v := 0) (pc := 32) C dX8_freeFactors_32 (by decide) ?_
        exact x_sub (tX8_freeFactors_33 C hr ih h) (xLe_s (xLe_s (xLe_n (xLe_n (xLe_s xLe_0)))))
      · rw [if_neg q] at h
        refine x_aload_n (pc := 22) C dX8_freeFactors_22 rfl rfl ?_
        obtain ⟨k, h⟩ := chk_s h
        have k2 := k
        obtain ⟨k, h⟩ := chk_s h
        refine x_getR (pc := 23) C fX8_72 rfl k2 k dX8_freeFactors_23 ?_
        refine x_iload (pc := 26) C dX8_freeFactors_26 rfl ?_
        obtain ⟨k, h⟩ := chk_s h
        refine x_lald (pc := 28) C k dX8_freeFactors_28 ?_
        refine x_goto (tgt := 33) (pc := 29) C dX8_freeFactors_29 (by decide) ?_
        exact x_sub (tX8_freeFactors_33 C hr ih h) (xLe_s (xLe_s (xLe_n (xLe_n (xLe_s xLe_0)))))
def DX8_freeFactors (l0 : Nat) (l1 : Int32) (σ : Sg) : Option (Int64 × Sg) :=
  DX8_freeFactors_5 FU l0 l1 (0 : Int64) (0 : Int32) σ
theorem mX8_freeFactors (E : Ev) (l : Launch) {l0 : Nat} {l1 : Int32} {σ : Sg} {r : Int64} {σ' : Sg} (h : DX8_freeFactors l0 l1 σ = some (r, σ')) : Mt E l yX8_freeFactors cX8_freeFactors 5 (some .long) 1 0 0 [.ref (ad E l0), .int l1] σ (some (.long r)) σ' := by
  refine Mt.ofX (by decide) (Nat.le_of_ble_eq_true rfl) (L0 := [some (.ref (ad E l0)), some (.int l1), none, none, none]) (xEntN_ok [.ref (ad E l0), .int l1] 5) (fun p e s m args below meth c C hr hn => ?_)
  unfold DX8_freeFactors at h
  refine x_lconst (v := 0) (pc := 0) C dX8_freeFactors_0 (by decide) ?_
  refine x_lstore_n (M := [some _, some _, some _, none, none]) (pc := 1) C dX8_freeFactors_1 rfl (by decide) rfl ?_
  refine x_iconst (v := 0) (pc := 2) C dX8_freeFactors_2 (by decide) ?_
  refine x_istore (M := [some _, some _, some _, none, some _]) (pc := 3) C dX8_freeFactors_3 (by decide) rfl ?_
  exact x_sub (tX8_freeFactors_5 C hr FU _ _ _ _ _ h) (xLe_s (xLe_s (xLe_s (xLe_n (xLe_s xLe_0)))))
def DX8_isShort_47 (s0 : Int32) (σ : Sg) : Option (Int32 × Sg) :=
  chk (ck01 s0) <|
  some (s0, σ)
theorem tX8_isShort_47 {r : Int32} {σ' : Sg} (C : Cx E p s m args meth c RX8 cX8_isShort 4) (hr : meth.sig.returnType = (some .boolean)) {s0 : Int32} {σ : Sg} (h : DX8_isShort_47 s0 σ = some (r, σ')) : Y E p l e (rmA 1 0 0) s m args below meth c (some (.int r)) σ' 0 0 4 0 0 σ 47 [none, none, none, none] [.int s0] := by
  unfold DX8_isShort_47 at h
  obtain ⟨kz, h⟩ := chk_s h
  cases h
  exact x_zret C hr (nar_01 kz) dX8_isShort_47
def DX8_isShort_46 (σ : Sg) : Option (Int32 × Sg) :=
  DX8_isShort_47 (0 : Int32) σ
theorem tX8_isShort_46 {r : Int32} {σ' : Sg} (C : Cx E p s m args meth c RX8 cX8_isShort 4) (hr : meth.sig.returnType = (some .boolean)) {σ : Sg} (h : DX8_isShort_46  σ = some (r, σ')) : Y E p l e (rmA 1 0 0) s m args below meth c (some (.int r)) σ' 0 0 4 0 0 σ 46 [none, none, none, none] [] := by
  unfold DX8_isShort_46 at h
  refine x_iconst (v := 0) (pc := 46) C dX8_isShort_46 (by decide) ?_
  exact x_sub (tX8_isShort_47 C hr h) (xLe_n (xLe_n (xLe_n (xLe_n xLe_0))))
def DX8_isShort (l0 : Nat) (l1 : Int32) (l2 : Int64) (σ : Sg) : Option (Int32 × Sg) :=
  chk (ckO σ 6 l0) <|
  chk (ckV (gR σ l0 46)) <|
  chk (ckZ σ (gR σ l0 46) l1) <|
  if (aI σ (gR σ l0 46) l1.toNatClampNeg) = 0 then
    DX8_isShort_46 σ
  else
    chk (ckO σ 6 l0) <|
    chk (ckV (gR σ l0 44)) <|
    chk (ckI σ (gR σ l0 44) l1) <|
    if (aI σ (gR σ l0 44) l1.toNatClampNeg) = (3 : Int32) then
      chk (ckO σ 6 l0) <|
      chk (ckO σ 6 l0) <|
      chk (ckV (gR σ l0 42)) <|
      chk (ckJ σ (gR σ l0 42) l1) <|
      chk (ckO σ 6 l0) <|
      chk (ckV (gR σ l0 43)) <|
      chk (ckJ σ (gR σ l0 43) l1) <|
      if ((aJ σ (gR σ l0 43) l1.toNatClampNeg) * l2) ≤ ((gJ σ l0 48) * (aJ σ (gR σ l0 42) l1.toNatClampNeg)) then
        DX8_isShort_46 σ
      else
        DX8_isShort_47 (1 : Int32) σ
    else
      DX8_isShort_46 σ
theorem mX8_isShort (E : Ev) (l : Launch) {l0 : Nat} {l1 : Int32} {l2 : Int64} {σ : Sg} {r : Int32} {σ' : Sg} (h : DX8_isShort l0 l1 l2 σ = some (r, σ')) : Mt E l yX8_isShort cX8_isShort 4 (some .boolean) 1 0 0 [.ref (ad E l0), .int l1, .long l2] σ (some (.int r)) σ' := by
  refine Mt.ofX (by decide) (Nat.le_of_ble_eq_true rfl) (L0 := [some (.ref (ad E l0)), some (.int l1), some (.long l2), none]) (xEntN_ok [.ref (ad E l0), .int l1, .long l2] 4) (fun p e s m args below meth c C hr hn => ?_)
  unfold DX8_isShort at h
  refine x_aload_n (pc := 0) C dX8_isShort_0 rfl rfl ?_
  obtain ⟨k, h⟩ := chk_s h
  have k2 := k
  obtain ⟨k, h⟩ := chk_s h
  refine x_getR (pc := 1) C fX8_84 rfl k2 k dX8_isShort_1 ?_
  refine x_iload_n (pc := 4) C dX8_isShort_4 rfl rfl ?_
  obtain ⟨k, h⟩ := chk_s h
  refine x_zald (pc := 5) C k dX8_isShort_5 ?_
  refine x_if_eq (pc := 6) (tgt := 46) C dX8_isShort_6 (by decide) (fun q => ?_) (fun q => ?_)
  · rw [if_pos q] at h
    exact x_sub (tX8_isShort_46 C hr h) (xLe_n (xLe_n (xLe_n (xLe_n xLe_0))))
  · rw [if_neg q] at h
    refine x_aload_n (pc := 9) C dX8_isShort_9 rfl rfl ?_
    obtain ⟨k, h⟩ := chk_s h
    have k2 := k
    obtain ⟨k, h⟩ := chk_s h
    refine x_getR (pc := 10) C fX8_78 rfl k2 k dX8_isShort_10 ?_
    refine x_iload_n (pc := 13) C dX8_isShort_13 rfl rfl ?_
    obtain ⟨k, h⟩ := chk_s h
    refine x_iald (pc := 14) C k dX8_isShort_14 ?_
    refine x_iconst (v := 3) (pc := 15) C dX8_isShort_15 (by decide) ?_
    refine x_icmp_ne (pc := 16) (tgt := 46) C dX8_isShort_16 (by decide) (fun q => ?_) (fun q => ?_)
    · rw [if_pos q] at h
      refine x_aload_n (pc := 19) C dX8_isShort_19 rfl rfl ?_
      obtain ⟨k, h⟩ := chk_s h
      refine x_getJ (pc := 20) C fX8_354 rfl k dX8_isShort_20 ?_
      refine x_aload_n (pc := 23) C dX8_isShort_23 rfl rfl ?_
      obtain ⟨k, h⟩ := chk_s h
      have k2 := k
      obtain ⟨k, h⟩ := chk_s h
      refine x_getR (pc := 24) C fX8_72 rfl k2 k dX8_isShort_24 ?_
      refine x_iload_n (pc := 27) C dX8_isShort_27 rfl rfl ?_
      obtain ⟨k, h⟩ := chk_s h
      refine x_lald (pc := 28) C k dX8_isShort_28 ?_
      refine x_lmul (pc := 29) C dX8_isShort_29 ?_
      refine x_aload_n (pc := 30) C dX8_isShort_30 rfl rfl ?_
      obtain ⟨k, h⟩ := chk_s h
      have k2 := k
      obtain ⟨k, h⟩ := chk_s h
      refine x_getR (pc := 31) C fX8_75 rfl k2 k dX8_isShort_31 ?_
      refine x_iload_n (pc := 34) C dX8_isShort_34 rfl rfl ?_
      obtain ⟨k, h⟩ := chk_s h
      refine x_lald (pc := 35) C k dX8_isShort_35 ?_
      refine x_lload_n (pc := 36) C dX8_isShort_36 rfl rfl ?_
      refine x_lmul (pc := 37) C dX8_isShort_37 ?_
      refine x_lcmp (pc := 38) C dX8_isShort_38 ?_
      refine x_lif_ge (pc := 39) (tgt := 46) C dX8_isShort_39 (by decide) (fun q => ?_) (fun q => ?_)
      · rw [if_pos q] at h
        exact x_sub (tX8_isShort_46 C hr h) (xLe_n (xLe_n (xLe_n (xLe_n xLe_0))))
      · rw [if_neg q] at h
        refine x_iconst (v := 1) (pc := 42) C dX8_isShort_42 (by decide) ?_
        refine x_goto (tgt := 47) (pc := 43) C dX8_isShort_43 (by decide) ?_
        exact x_sub (tX8_isShort_47 C hr h) (xLe_n (xLe_n (xLe_n (xLe_n xLe_0))))
    · rw [if_neg q] at h
      exact x_sub (tX8_isShort_46 C hr h) (xLe_n (xLe_n (xLe_n (xLe_n xLe_0))))
def DX8_isLong_47 (s0 : Int32) (σ : Sg) : Option (Int32 × Sg) :=
  chk (ck01 s0) <|
  some (s0, σ)
theorem tX8_isLong_47 {r : Int32} {σ' : Sg} (C : Cx E p s m args meth c RX8 cX8_isLong 4) (hr : meth.sig.returnType = (some .boolean)) {s0 : Int32} {σ : Sg} (h : DX8_isLong_47 s0 σ = some (r, σ')) : Y E p l e (rmA 1 0 0) s m args below meth c (some (.int r)) σ' 0 0 4 0 0 σ 47 [none, none, none, none] [.int s0] := by
  unfold DX8_isLong_47 at h
  obtain ⟨kz, h⟩ := chk_s h
  cases h
  exact x_zret C hr (nar_01 kz) dX8_isLong_47
def DX8_isLong_46 (σ : Sg) : Option (Int32 × Sg) :=
  DX8_isLong_47 (0 : Int32) σ
theorem tX8_isLong_46 {r : Int32} {σ' : Sg} (C : Cx E p s m args meth c RX8 cX8_isLong 4) (hr : meth.sig.returnType = (some .boolean)) {σ : Sg} (h : DX8_isLong_46  σ = some (r, σ')) : Y E p l e (rmA 1 0 0) s m args below meth c (some (.int r)) σ' 0 0 4 0 0 σ 46 [none, none, none, none] [] := by
  unfold DX8_isLong_46 at h
  refine x_iconst (v := 0) (pc := 46) C dX8_isLong_46 (by decide) ?_
  exact x_sub (tX8_isLong_47 C hr h) (xLe_n (xLe_n (xLe_n (xLe_n xLe_0))))
def DX8_isLong (l0 : Nat) (l1 : Int32) (l2 : Int64) (σ : Sg) : Option (Int32 × Sg) :=
  chk (ckO σ 6 l0) <|
  chk (ckV (gR σ l0 46)) <|
  chk (ckZ σ (gR σ l0 46) l1) <|
  if (aI σ (gR σ l0 46) l1.toNatClampNeg) = 0 then
    DX8_isLong_46 σ
  else
    chk (ckO σ 6 l0) <|
    chk (ckV (gR σ l0 44)) <|
    chk (ckI σ (gR σ l0 44) l1) <|
    if (aI σ (gR σ l0 44) l1.toNatClampNeg) = (4 : Int32) then
      chk (ckO σ 6 l0) <|
      chk (ckO σ 6 l0) <|
      chk (ckV (gR σ l0 42)) <|
      chk (ckJ σ (gR σ l0 42) l1) <|
      chk (ckO σ 6 l0) <|
      chk (ckV (gR σ l0 43)) <|
      chk (ckJ σ (gR σ l0 43) l1) <|
      if ((gJ σ l0 48) * (aJ σ (gR σ l0 42) l1.toNatClampNeg)) ≤ ((aJ σ (gR σ l0 43) l1.toNatClampNeg) * l2) then
        DX8_isLong_46 σ
      else
        DX8_isLong_47 (1 : Int32) σ
    else
      DX8_isLong_46 σ
theorem mX8_isLong (E : Ev) (l : Launch) {l0 : Nat} {l1 : Int32} {l2 : Int64} {σ : Sg} {r : Int32} {σ' : Sg} (h : DX8_isLong l0 l1 l2 σ = some (r, σ')) : Mt E l yX8_isLong cX8_isLong 4 (some .boolean) 1 0 0 [.ref (ad E l0), .int l1, .long l2] σ (some (.int r)) σ' := by
  refine Mt.ofX (by decide) (Nat.le_of_ble_eq_true rfl) (L0 := [some (.ref (ad E l0)), some (.int l1), some (.long l2), none]) (xEntN_ok [.ref (ad E l0), .int l1, .long l2] 4) (fun p e s m args below meth c C hr hn => ?_)
  unfold DX8_isLong at h
  refine x_aload_n (pc := 0) C dX8_isLong_0 rfl rfl ?_
  obtain ⟨k, h⟩ := chk_s h
  have k2 := k
  obtain ⟨k, h⟩ := chk_s h
  refine x_getR (pc := 1) C fX8_84 rfl k2 k dX8_isLong_1 ?_
  refine x_iload_n (pc := 4) C dX8_isLong_4 rfl rfl ?_
  obtain ⟨k, h⟩ := chk_s h
  refine x_zald (pc := 5) C k dX8_isLong_5 ?_
  refine x_if_eq (pc := 6) (tgt := 46) C dX8_isLong_6 (by decide) (fun q => ?_) (fun q => ?_)
  · rw [if_pos q] at h
    exact x_sub (tX8_isLong_46 C hr h) (xLe_n (xLe_n (xLe_n (xLe_n xLe_0))))
  · rw [if_neg q] at h
    refine x_aload_n (pc := 9) C dX8_isLong_9 rfl rfl ?_
    obtain ⟨k, h⟩ := chk_s h
    have k2 := k
    obtain ⟨k, h⟩ := chk_s h
    refine x_getR (pc := 10) C fX8_78 rfl k2 k dX8_isLong_10 ?_
    refine x_iload_n (pc := 13) C dX8_isLong_13 rfl rfl ?_
    obtain ⟨k, h⟩ := chk_s h
    refine x_iald (pc := 14) C k dX8_isLong_14 ?_
    refine x_iconst (v := 4) (pc := 15) C dX8_isLong_15 (by decide) ?_
    refine x_icmp_ne (pc := 16) (tgt := 46) C dX8_isLong_16 (by decide) (fun q => ?_) (fun q => ?_)
    · rw [if_pos q] at h
      refine x_aload_n (pc := 19) C dX8_isLong_19 rfl rfl ?_
      obtain ⟨k, h⟩ := chk_s h
      refine x_getJ (pc := 20) C fX8_354 rfl k dX8_isLong_20 ?_
      refine x_aload_n (pc := 23) C dX8_isLong_23 rfl rfl ?_
      obtain ⟨k, h⟩ := chk_s h
      have k2 := k
      obtain ⟨k, h⟩ := chk_s h
      refine x_getR (pc := 24) C fX8_72 rfl k2 k dX8_isLong_24 ?_
      refine x_iload_n (pc := 27) C dX8_isLong_27 rfl rfl ?_
      obtain ⟨k, h⟩ := chk_s h
      refine x_lald (pc := 28) C k dX8_isLong_28 ?_
      refine x_lmul (pc := 29) C dX8_isLong_29 ?_
      refine x_aload_n (pc := 30) C dX8_isLong_30 rfl rfl ?_
      obtain ⟨k, h⟩ := chk_s h
      have k2 := k
      obtain ⟨k, h⟩ := chk_s h
      refine x_getR (pc := 31) C fX8_75 rfl k2 k dX8_isLong_31 ?_
      refine x_iload_n (pc := 34) C dX8_isLong_34 rfl rfl ?_
      obtain ⟨k, h⟩ := chk_s h
      refine x_lald (pc := 35) C k dX8_isLong_35 ?_
      refine x_lload_n (pc := 36) C dX8_isLong_36 rfl rfl ?_
      refine x_lmul (pc := 37) C dX8_isLong_37 ?_
      refine x_lcmp (pc := 38) C dX8_isLong_38 ?_
      refine x_lif_le (pc := 39) (tgt := 46) C dX8_isLong_39 (by decide) (fun q => ?_) (fun q => ?_)
      · rw [if_pos q] at h
        exact x_sub (tX8_isLong_46 C hr h) (xLe_n (xLe_n (xLe_n (xLe_n xLe_0))))
      · rw [if_neg q] at h
        refine x_iconst (v := 1) (pc := 42) C dX8_isLong_42 (by decide) ?_
        refine x_goto (tgt := 47) (pc := 43) C dX8_isLong_43 (by decide) ?_
        exact x_sub (tX8_isLong_47 C hr h) (xLe_n (xLe_n (xLe_n (xLe_n xLe_0))))
    · rw [if_neg q] at h
      exact x_sub (tX8_isLong_46 C hr h) (xLe_n (xLe_n (xLe_n (xLe_n xLe_0))))
def DX8_mosts_40 (K0 : Nat → Int32 → Sg → Option (Unit × Sg)) (K12 : Nat → Int32 → Int64 → Int64 → Int32 → Sg → Option (Unit × Sg)) (l0 : Nat) (l1 : Int32) (l2 : Int64) (l4 : Int64) (l6 : Int32) (σ : Sg) : Option (Unit × Sg) :=
  K12 l0 l1 l2 l4 (l6 + (1 : Int32)) σ
theorem tX8_mosts_40 {r : Unit} {σ' : Sg} (C : Cx E p s m args meth c RX8 cX8_mosts 7) (hr : meth.sig.returnType = none) {K0 : Nat → Int32 → Sg → Option (Unit × Sg)} (hK0 : ∀ (l0 : Nat) (l1 : Int32) (σ : Sg), K0 l0 l1 σ = some (r, σ') → Y E p l e (rmA 2 0 0) s m args below meth c none σ' 0 0 7 0 0 σ 0 [some (.ref (ad E l0)), some (.int l1), none, none, none, none, none] []) {K12 : Nat → Int32 → Int64 → Int64 → Int32 → Sg → Option (Unit × Sg)} (hK12 : ∀ (l0 : Nat) (l1 : Int32) (l2 : Int64) (l4 : Int64) (l6 : Int32) (σ : Sg), K12 l0 l1 l2 l4 l6 σ = some (r, σ') → Y E p l e (rmA 2 0 0) s m args below meth c none σ' 0 0 7 0 0 σ 12 [some (.ref (ad E l0)), some (.int l1), some (.long l2), none, some (.long l4), none, some (.int l6)] []) {l0 : Nat} {l1 : Int32} {l2 : Int64} {l4 : Int64} {l6 : Int32} {σ : Sg} (h : DX8_mosts_40 K0 K12 l0 l1 l2 l4 l6 σ = some (r, σ')) : Y E p l e (rmA 2 0 0) s m args below meth c none σ' 0 0 7 0 0 σ 40 [some (.ref (ad E l0)), some (.int l1), some (.long l2), none, some (.long l4), none, some (.int l6)] [] := by
  unfold DX8_mosts_40 at h
  refine x_iinc (v := 1) (M := [some _, some _, some _, none, some _, none, some _]) (pc := 40) C dX8_mosts_40 rfl (by decide) (by decide) rfl ?_
  refine x_goto (tgt := 12) (pc := 43) C dX8_mosts_43 (by decide) ?_
  exact x_sub (hK12 _ _ _ _ _ _ h) (xLe_s (xLe_s (xLe_s (xLe_n (xLe_s (xLe_n (xLe_s xLe_0)))))))
def DX8_mosts_231 (K199 : Nat → Int32 → Int64 → Int32 → Int32 → Sg → Option (Unit × Sg)) (l0 : Nat) (l1 : Int32) (l2 : Int64) (l4 : Int32) (l5 : Int32) (σ : Sg) : Option (Unit × Sg) :=
  K199 l0 l1 l2 l4 (l5 + (1 : Int32)) σ
theorem tX8_mosts_231 {r : Unit} {σ' : Sg} (C : Cx E p s m args meth c RX8 cX8_mosts 7) (hr : meth.sig.returnType = none) {K199 : Nat → Int32 → Int64 → Int32 → Int32 → Sg → Option (Unit × Sg)} (hK199 : ∀ (l0 : Nat) (l1 : Int32) (l2 : Int64) (l4 : Int32) (l5 : Int32) (σ : Sg), K199 l0 l1 l2 l4 l5 σ = some (r, σ') → Y E p l e (rmA 2 0 0) s m args below meth c none σ' 0 0 7 0 0 σ 199 [some (.ref (ad E l0)), some (.int l1), some (.long l2), none, some (.int l4), some (.int l5), none] []) {l0 : Nat} {l1 : Int32} {l2 : Int64} {l4 : Int32} {l5 : Int32} {σ : Sg} (h : DX8_mosts_231 K199 l0 l1 l2 l4 l5 σ = some (r, σ')) : Y E p l e (rmA 2 0 0) s m args below meth c none σ' 0 0 7 0 0 σ 231 [some (.ref (ad E l0)), some (.int l1), some (.long l2), none, some (.int l4), some (.int l5), none] [] := by
  unfold DX8_mosts_231 at h
  refine x_iinc (v := 1) (M := [some _, some _, some _, none, some _, some _, none]) (pc := 231) C dX8_mosts_231 rfl (by decide) (by decide) rfl ?_
  refine x_goto (tgt := 199) (pc := 234) C dX8_mosts_234 (by decide) ?_
  exact x_sub (hK199 _ _ _ _ _ _ h) (xLe_s (xLe_s (xLe_s (xLe_n (xLe_s (xLe_s (xLe_n xLe_0)))))))
def DX8_mosts_302 (K245 : Nat → Int32 → Int32 → Int32 → Sg → Option (Unit × Sg)) (l0 : Nat) (l1 : Int32) (l4 : Int32) (l5 : Int32) (s0 : Nat) (s1 : Int32) (s2 : Int64) (σ : Sg) : Option (Unit × Sg) :=
  chk (ckJ σ s0 s1) <|
  wlet (wJ σ s0 s1.toNatClampNeg s2) fun σ1 =>
  K245 l0 l1 l4 (l5 + (1 : Int32)) σ1
theorem tX8_mosts_302 {r : Unit} {σ' : Sg} (C : Cx E p s m args meth c RX8 cX8_mosts 7) (hr : meth.sig.returnType = none) {K245 : Nat → Int32 → Int32 → Int32 → Sg → Option (Unit × Sg)} (hK245 : ∀ (l0 : Nat) (l1 : Int32) (l4 : Int32) (l5 : Int32) (σ : Sg), K245 l0 l1 l4 l5 σ = some (r, σ') → Y E p l e (rmA 2 0 0) s m args below meth c none σ' 0 0 7 0 0 σ 245 [some (.ref (ad E l0)), some (.int l1), none, none, some (.int l4), some (.int l5), none] []) {l0 : Nat} {l1 : Int32} {l4 : Int32} {l5 : Int32} {s0 : Nat} {s1 : Int32} {s2 : Int64} {σ : Sg} (h : DX8_mosts_302 K245 l0 l1 l4 l5 s0 s1 s2 σ = some (r, σ')) : Y E p l e (rmA 2 0 0) s m args below meth c none σ' 0 0 7 0 0 σ 302 [some (.ref (ad E l0)), some (.int l1), none, none, some (.int l4), some (.int l5), none] [.long s2, .int s1, .ref (ad E s0)] := by
  unfold DX8_mosts_302 at h
  obtain ⟨k, h⟩ := chk_s h
  obtain ⟨σ1, e1, h⟩ := wlet_s h
  refine x_last (pc := 302) C k dX8_mosts_302 (x_eq e1 ?_)
  refine x_iinc (v := 1) (M := [some _, some _, none, none, some _, some _, none]) (pc := 303) C dX8_mosts_303 rfl (by decide) (by decide) rfl ?_
  refine x_goto (tgt := 245) (pc := 306) C dX8_mosts_306 (by decide) ?_
  exact x_sub (hK245 _ _ _ _ _ h) (xLe_s (xLe_s (xLe_n (xLe_n (xLe_s (xLe_s (xLe_n xLe_0)))))))
def DX8_mosts_286 (K245 : Nat → Int32 → Int32 → Int32 → Sg → Option (Unit × Sg)) (l0 : Nat) (l1 : Int32) (l4 : Int32) (l5 : Int32) (s0 : Nat) (s1 : Int32) (σ : Sg) : Option (Unit × Sg) :=
  chk (ckO σ 6 l0) <|
  chk (ckO σ 6 l0) <|
  chk (ckV (gR σ l0 42)) <|
  chk (ckJ σ (gR σ l0 42) l5) <|
  DX8_mosts_302 K245 l0 l1 l4 l5 s0 s1 ((gJ σ l0 48) * (aJ σ (gR σ l0 42) l5.toNatClampNeg)) σ
theorem tX8_mosts_286 {r : Unit} {σ' : Sg} (C : Cx E p s m args meth c RX8 cX8_mosts 7) (hr : meth.sig.returnType = none) {K245 : Nat → Int32 → Int32 → Int32 → Sg → Option (Unit × Sg)} (hK245 : ∀ (l0 : Nat) (l1 : Int32) (l4 : Int32) (l5 : Int32) (σ : Sg), K245 l0 l1 l4 l5 σ = some (r, σ') → Y E p l e (rmA 2 0 0) s m args below meth c none σ' 0 0 7 0 0 σ 245 [some (.ref (ad E l0)), some (.int l1), none, none, some (.int l4), some (.int l5), none] []) {l0 : Nat} {l1 : Int32} {l4 : Int32} {l5 : Int32} {s0 : Nat} {s1 : Int32} {σ : Sg} (h : DX8_mosts_286 K245 l0 l1 l4 l5 s0 s1 σ = some (r, σ')) : Y E p l e (rmA 2 0 0) s m args below meth c none σ' 0 0 7 0 0 σ 286 [some (.ref (ad E l0)), some (.int l1), none, none, some (.int l4), some (.int l5), none] [.int s1, .ref (ad E s0)] := by
  unfold DX8_mosts_286 at h
  refine x_aload_n (pc := 286) C dX8_mosts_286 rfl rfl ?_
  obtain ⟨k, h⟩ := chk_s h
  refine x_getJ (pc := 287) C fX8_354 rfl k dX8_mosts_287 ?_
  refine x_aload_n (pc := 290) C dX8_mosts_290 rfl rfl ?_
  obtain ⟨k, h⟩ := chk_s h
  have k2 := k
  obtain ⟨k, h⟩ := chk_s h
  refine x_getR (pc := 291) C fX8_72 rfl k2 k dX8_mosts_291 ?_
  refine x_iload (pc := 294) C dX8_mosts_294 rfl ?_
  obtain ⟨k, h⟩ := chk_s h
  refine x_lald (pc := 296) C k dX8_mosts_296 ?_
  refine x_lmul (pc := 297) C dX8_mosts_297 ?_
  refine x_goto (tgt := 302) (pc := 298) C dX8_mosts_298 (by decide) ?_
  exact x_sub (tX8_mosts_302 C hr hK245 h) (xLe_s (xLe_s (xLe_n (xLe_n (xLe_s (xLe_s (xLe_n xLe_0)))))))
def DX8_mosts_301 (K245 : Nat → Int32 → Int32 → Int32 → Sg → Option (Unit × Sg)) (l0 : Nat) (l1 : Int32) (l4 : Int32) (l5 : Int32) (s0 : Nat) (s1 : Int32) (σ : Sg) : Option (Unit × Sg) :=
  DX8_mosts_302 K245 l0 l1 l4 l5 s0 s1 (0 : Int64) σ
theorem tX8_mosts_301 {r : Unit} {σ' : Sg} (C : Cx E p s m args meth c RX8 cX8_mosts 7) (hr : meth.sig.returnType = none) {K245 : Nat → Int32 → Int32 → Int32 → Sg → Option (Unit × Sg)} (hK245 : ∀ (l0 : Nat) (l1 : Int32) (l4 : Int32) (l5 : Int32) (σ : Sg), K245 l0 l1 l4 l5 σ = some (r, σ') → Y E p l e (rmA 2 0 0) s m args below meth c none σ' 0 0 7 0 0 σ 245 [some (.ref (ad E l0)), some (.int l1), none, none, some (.int l4), some (.int l5), none] []) {l0 : Nat} {l1 : Int32} {l4 : Int32} {l5 : Int32} {s0 : Nat} {s1 : Int32} {σ : Sg} (h : DX8_mosts_301 K245 l0 l1 l4 l5 s0 s1 σ = some (r, σ')) : Y E p l e (rmA 2 0 0) s m args below meth c none σ' 0 0 7 0 0 σ 301 [some (.ref (ad E l0)), some (.int l1), none, none, some (.int l4), some (.int l5), none] [.int s1, .ref (ad E s0)] := by
  unfold DX8_mosts_301 at h
  refine x_lconst (v := 0) (pc := 301) C dX8_mosts_301 (by decide) ?_
  exact x_sub (tX8_mosts_302 C hr hK245 h) (xLe_s (xLe_s (xLe_n (xLe_n (xLe_s (xLe_s (xLe_n xLe_0)))))))
def DX8_mosts_309 (σ : Sg) : Option (Unit × Sg) :=
  some ((), σ)
theorem tX8_mosts_309 {r : Unit} {σ' : Sg} (C : Cx E p s m args meth c RX8 cX8_mosts 7) (hr : meth.sig.returnType = none) {σ : Sg} (h : DX8_mosts_309  σ = some (r, σ')) : Y E p l e (rmA 2 0 0) s m args below meth c none σ' 0 0 7 0 0 σ 309 [none, none, none, none, none, none, none] [] := by
  unfold DX8_mosts_309 at h
  cases h
  exact x_vret C hr dX8_mosts_309
def DX8_mosts_245 : Nat → Nat → Int32 → Int32 → Int32 → Sg → Option (Unit × Sg)
  | 0, _, _, _, _, _ => none
  | n + 1, l0, l1, l4, l5, σ =>
    if l1 ≤ l5 then
      DX8_mosts_309 σ
    else
      chk (ckO σ 6 l0) <|
      chk (ckV (gR σ l0 41)) <|
      if l4 = 0 then
        chk (ckO σ 6 l0) <|
        chk (ckV (gR σ l0 46)) <|
        chk (ckZ σ (gR σ l0 46) l5) <|
        if (aI σ (gR σ l0 46) l5.toNatClampNeg) = 0 then
          DX8_mosts_301 (DX8_mosts_245 n) l0 l1 l4 l5 (gR σ l0 41) l5 σ
        else
          DX8_mosts_286 (DX8_mosts_245 n) l0 l1 l4 l5 (gR σ l0 41) l5 σ
      else
        chk (ckO σ 6 l0) <|
        chk (ckV (gR σ l0 45)) <|
        chk (ckI σ (gR σ l0 45) l5) <|
        if (aI σ (gR σ l0 45) l5.toNatClampNeg) = (4 : Int32) then
          DX8_mosts_286 (DX8_mosts_245 n) l0 l1 l4 l5 (gR σ l0 41) l5 σ
        else
          DX8_mosts_301 (DX8_mosts_245 n) l0 l1 l4 l5 (gR σ l0 41) l5 σ
theorem tX8_mosts_245 {r : Unit} {σ' : Sg} (C : Cx E p s m args meth c RX8 cX8_mosts 7) (hr : meth.sig.returnType = none) : ∀ (n : Nat) (l0 : Nat) (l1 : Int32) (l4 : Int32) (l5 : Int32) (σ : Sg) (h : DX8_mosts_245 n l0 l1 l4 l5 σ = some (r, σ')), Y E p l e (rmA 2 0 0) s m args below meth c none σ' 0 0 7 0 0 σ 245 [some (.ref (ad E l0)), some (.int l1), none, none, some (.int l4), some (.int l5), none] [] := by
  intro n
  induction n with
  | zero => intro l0 l1 l4 l5 σ h; cases h
  | succ n ih =>
    intro l0 l1 l4 l5 σ h
    unfold DX8_mosts_245 at h
    refine x_iload (pc := 245) C dX8_mosts_245 rfl ?_
    refine x_iload_n (pc := 247) C dX8_mosts_247 rfl rfl ?_
    refine x_icmp_ge (pc := 248) (tgt := 309) C dX8_mosts_248 (by decide) (fun q => ?_) (fun q => ?_)
    · rw [if_pos q] at h
      exact x_sub (tX8_mosts_309 C hr h) (xLe_n (xLe_n (xLe_n (xLe_n (xLe_n (xLe_n (xLe_n xLe_0)))))))
    · rw [if_neg q] at h
      refine x_aload_n (pc := 251) C dX8_mosts_251 rfl rfl ?_
      obtain ⟨k, h⟩ := chk_s h
      have k2 := k
      obtain ⟨k, h⟩ := chk_s h
      refine x_getR (pc := 252) C fX8_69 rfl k2 k dX8_mosts_252 ?_
      refine x_iload (pc := 255) C dX8_mosts_255 rfl ?_
      refine x_iload (pc := 257) C dX8_mosts_257 rfl ?_
      refine x_if_eq (pc := 259) (tgt := 276) C dX8_mosts_259 (by decide) (fun q => ?_) (fun q => ?_)
      · rw [if_pos q] at h
        refine x_aload_n (pc := 276) C dX8_mosts_276 rfl rfl ?_
        obtain ⟨k, h⟩ := chk_s h
        have k2 := k
        obtain ⟨k, h⟩ := chk_s h
        refine x_getR (pc := 277) C fX8_84 rfl k2 k dX8_mosts_277 ?_
        refine x_iload (pc := 280) C dX8_mosts_280 rfl ?_
        obtain ⟨k, h⟩ := chk_s h
        refine x_zald (pc := 282) C k dX8_mosts_282 ?_
        refine x_if_eq (pc := 283) (tgt := 301) C dX8_mosts_283 (by decide) (fun q => ?_) (fun q => ?_)
        · rw [if_pos q] at h
          exact x_sub (tX8_mosts_301 C hr ih h) (xLe_s (xLe_s (xLe_n (xLe_n (xLe_s (xLe_s (xLe_n xLe_0)))))))
        · rw [if_neg q] at h
          exact x_sub (tX8_mosts_286 C hr ih h) (xLe_s (xLe_s (xLe_n (xLe_n (xLe_s (xLe_s (xLe_n xLe_0)))))))
      · rw [if_neg q] at h
        refine x_aload_n (pc := 262) C dX8_mosts_262 rfl rfl ?_
        obtain ⟨k, h⟩ := chk_s h
        have k2 := k
        obtain ⟨k, h⟩ := chk_s h
        refine x_getR (pc := 263) C fX8_81 rfl k2 k dX8_mosts_263 ?_
        refine x_iload (pc := 266) C dX8_mosts_266 rfl ?_
        obtain ⟨k, h⟩ := chk_s h
        refine x_iald (pc := 268) C k dX8_mosts_268 ?_
        refine x_iconst (v := 4) (pc := 269) C dX8_mosts_269 (by decide) ?_
        refine x_icmp_ne (pc := 270) (tgt := 301) C dX8_mosts_270 (by decide) (fun q => ?_) (fun q => ?_)
        · rw [if_pos q] at h
          refine x_goto (tgt := 286) (pc := 273) C dX8_mosts_273 (by decide) ?_
          exact x_sub (tX8_mosts_286 C hr ih h) (xLe_s (xLe_s (xLe_n (xLe_n (xLe_s (xLe_s (xLe_n xLe_0)))))))
        · rw [if_neg q] at h
          exact x_sub (tX8_mosts_301 C hr ih h) (xLe_s (xLe_s (xLe_n (xLe_n (xLe_s (xLe_s (xLe_n xLe_0)))))))
def DX8_mosts_237 (l0 : Nat) (l1 : Int32) (l2 : Int64) (l4 : Int32) (σ : Sg) : Option (Unit × Sg) :=
  chk (ckO σ 6 l0) <|
  wlet (pJ σ l0 47 l2) fun σ1 =>
  DX8_mosts_245 FU l0 l1 l4 (0 : Int32) σ1
theorem tX8_mosts_237 {r : Unit} {σ' : Sg} (C : Cx E p s m args meth c RX8 cX8_mosts 7) (hr : meth.sig.returnType = none) {l0 : Nat} {l1 : Int32} {l2 : Int64} {l4 : Int32} {σ : Sg} (h : DX8_mosts_237 l0 l1 l2 l4 σ = some (r, σ')) : Y E p l e (rmA 2 0 0) s m args below meth c none σ' 0 0 7 0 0 σ 237 [some (.ref (ad E l0)), some (.int l1), some (.long l2), none, some (.int l4), none, none] [] := by
  unfold DX8_mosts_237 at h
  refine x_aload_n (pc := 237) C dX8_mosts_237 rfl rfl ?_
  refine x_lload_n (pc := 238) C dX8_mosts_238 rfl rfl ?_
  obtain ⟨k, h⟩ := chk_s h
  obtain ⟨σ1, e1, h⟩ := wlet_s h
  refine x_putJ (pc := 239) C pX8_338 rfl k dX8_mosts_239 (x_eq e1 ?_)
  refine x_iconst (v := 0) (pc := 242) C dX8_mosts_242 (by decide) ?_
  refine x_istore (M := [some _, some _, some _, none, some _, some _, none]) (pc := 243) C dX8_mosts_243 (by decide) rfl ?_
  exact x_sub (tX8_mosts_245 C hr FU _ _ _ _ _ h) (xLe_s (xLe_s (xLe_n (xLe_n (xLe_s (xLe_s (xLe_n xLe_0)))))))
def DX8_mosts_199 : Nat → Nat → Int32 → Int64 → Int32 → Int32 → Sg → Option (Unit × Sg)
  | 0, _, _, _, _, _, _ => none
  | n + 1, l0, l1, l2, l4, l5, σ =>
    if l1 ≤ l5 then
      DX8_mosts_237 l0 l1 l2 l4 σ
    else
      if l4 = 0 then
        DX8_mosts_231 (DX8_mosts_199 n) l0 l1 l2 l4 l5 σ
      else
        chk (ckO σ 6 l0) <|
        chk (ckV (gR σ l0 45)) <|
        chk (ckI σ (gR σ l0 45) l5) <|
        if (aI σ (gR σ l0 45) l5.toNatClampNeg) = (4 : Int32) then
          chk (ckO σ 6 l0) <|
          chk (ckV (gR σ l0 42)) <|
          chk (ckJ σ (gR σ l0 42) l5) <|
          DX8_mosts_231 (DX8_mosts_199 n) l0 l1 (l2 + (aJ σ (gR σ l0 42) l5.toNatClampNeg)) l4 l5 σ
        else
          DX8_mosts_231 (DX8_mosts_199 n) l0 l1 l2 l4 l5 σ
theorem tX8_mosts_199 {r : Unit} {σ' : Sg} (C : Cx E p s m args meth c RX8 cX8_mosts 7) (hr : meth.sig.returnType = none) : ∀ (n : Nat) (l0 : Nat) (l1 : Int32) (l2 : Int64) (l4 : Int32) (l5 : Int32) (σ : Sg) (h : DX8_mosts_199 n l0 l1 l2 l4 l5 σ = some (r, σ')), Y E p l e (rmA 2 0 0) s m args below meth c none σ' 0 0 7 0 0 σ 199 [some (.ref (ad E l0)), some (.int l1), some (.long l2), none, some (.int l4), some (.int l5), none] [] := by
  intro n
  induction n with
  | zero => intro l0 l1 l2 l4 l5 σ h; cases h
  | succ n ih =>
    intro l0 l1 l2 l4 l5 σ h
    unfold DX8_mosts_199 at h
    refine x_iload (pc := 199) C dX8_mosts_199 rfl ?_
    refine x_iload_n (pc := 201) C dX8_mosts_201 rfl rfl ?_
    refine x_icmp_ge (pc := 202) (tgt := 237) C dX8_mosts_202 (by decide) (fun q => ?_) (fun q => ?_)
    · rw [if_pos q] at h
      exact x_sub (tX8_mosts_237 C hr h) (xLe_s (xLe_s (xLe_s (xLe_n (xLe_s (xLe_n (xLe_n xLe_0)))))))
    · rw [if_neg q] at h
      refine x_iload (pc := 205) C dX8_mosts_205 rfl ?_
      refine x_if_eq (pc := 207) (tgt := 231) C dX8_mosts_207 (by decide) (fun q => ?_) (fun q => ?_)
      · rw [if_pos q] at h
        exact x_sub (tX8_mosts_231 C hr ih h) (xLe_s (xLe_s (xLe_s (xLe_n (xLe_s (xLe_s (xLe_n xLe_0)))))))
      · rw [if_neg q] at h
        refine x_aload_n (pc := 210) C dX8_mosts_210 rfl rfl ?_
        obtain ⟨k, h⟩ := chk_s h
        have k2 := k
        obtain ⟨k, h⟩ := chk_s h
        refine x_getR (pc := 211) C fX8_81 rfl k2 k dX8_mosts_211 ?_
        refine x_iload (pc := 214) C dX8_mosts_214 rfl ?_
        obtain ⟨k, h⟩ := chk_s h
        refine x_iald (pc := 216) C k dX8_mosts_216 ?_
        refine x_iconst (v := 4) (pc := 217) C dX8_mosts_217 (by decide) ?_
        refine x_icmp_ne (pc := 218) (tgt := 231) C dX8_mosts_218 (by decide) (fun q => ?_) (fun q => ?_)
        · rw [if_pos q] at h
          refine x_lload_n (pc := 221) C dX8_mosts_221 rfl rfl ?_
          refine x_aload_n (pc := 222) C dX8_mosts_222 rfl rfl ?_
          obtain ⟨k, h⟩ := chk_s h
          have k2 := k
          obtain ⟨k, h⟩ := chk_s h
          refine x_getR (pc := 223) C fX8_72 rfl k2 k dX8_mosts_223 ?_
          refine x_iload (pc := 226) C dX8_mosts_226 rfl ?_
          obtain ⟨k, h⟩ := chk_s h
          refine x_lald (pc := 228) C k dX8_mosts_228 ?_
          refine x_ladd (pc := 229) C dX8_mosts_229 ?_
          refine x_lstore_n (M := [some _, some _, some _, none, some _, some _, none]) (pc := 230) C dX8_mosts_230 rfl (by decide) rfl ?_
          exact x_sub (tX8_mosts_231 C hr ih h) (xLe_s (xLe_s (xLe_s (xLe_n (xLe_s (xLe_s (xLe_n xLe_0)))))))
        · rw [if_neg q] at h
          exact x_sub (tX8_mosts_231 C hr ih h) (xLe_s (xLe_s (xLe_s (xLe_n (xLe_s (xLe_s (xLe_n xLe_0)))))))
def DX8_mosts_194 (l0 : Nat) (l1 : Int32) (l2 : Int64) (s0 : Int32) (σ : Sg) : Option (Unit × Sg) :=
  DX8_mosts_199 FU l0 l1 l2 s0 (0 : Int32) σ
theorem tX8_mosts_194 {r : Unit} {σ' : Sg} (C : Cx E p s m args meth c RX8 cX8_mosts 7) (hr : meth.sig.returnType = none) {l0 : Nat} {l1 : Int32} {l2 : Int64} {s0 : Int32} {σ : Sg} (h : DX8_mosts_194 l0 l1 l2 s0 σ = some (r, σ')) : Y E p l e (rmA 2 0 0) s m args below meth c none σ' 0 0 7 0 0 σ 194 [some (.ref (ad E l0)), some (.int l1), some (.long l2), none, none, none, none] [.int s0] := by
  unfold DX8_mosts_194 at h
  refine x_istore (M := [some _, some _, some _, none, some _, none, none]) (pc := 194) C dX8_mosts_194 (by decide) rfl ?_
  refine x_iconst (v := 0) (pc := 196) C dX8_mosts_196 (by decide) ?_
  refine x_istore (M := [some _, some _, some _, none, some _, some _, none]) (pc := 197) C dX8_mosts_197 (by decide) rfl ?_
  exact x_sub (tX8_mosts_199 C hr FU _ _ _ _ _ _ h) (xLe_s (xLe_s (xLe_s (xLe_n (xLe_s (xLe_s (xLe_n xLe_0)))))))
def DX8_mosts_177 (l0 : Nat) (l1 : Int32) (σ : Sg) : Option (Unit × Sg) :=
  chk (ckO σ 6 l0) <|
  bnd (DX8_freeFactors l0 l1 σ) fun v1 σ2 =>
  if v1 = (0 : Int64) then
    DX8_mosts_194 l0 l1 v1 (1 : Int32) σ2
  else
    DX8_mosts_194 l0 l1 v1 (0 : Int32) σ2
theorem tX8_mosts_177 {r : Unit} {σ' : Sg} (C : Cx E p s m args meth c RX8 cX8_mosts 7) (hr : meth.sig.returnType = none) {l0 : Nat} {l1 : Int32} {σ : Sg} (h : DX8_mosts_177 l0 l1 σ = some (r, σ')) : Y E p l e (rmA 2 0 0) s m args below meth c none σ' 0 0 7 0 0 σ 177 [some (.ref (ad E l0)), some (.int l1), none, none, none, none, none] [] := by
  unfold DX8_mosts_177 at h
  refine x_aload_n (pc := 177) C dX8_mosts_177 rfl rfl ?_
  refine x_iload_n (pc := 178) C dX8_mosts_178 rfl rfl ?_
  obtain ⟨k, h⟩ := chk_s h
  have k2 := k
  obtain ⟨v1, σ2, k, h⟩ := bnd_s h
  refine x_callV1 (pc := 179) C (mX8_freeFactors E l k) cl6 k2 cX8_370 nX8_freeFactors sX8_freeFactors rfl rfl (Nat.le_of_ble_eq_true rfl) ⟨Nat.le_of_ble_eq_true rfl, Nat.le_of_ble_eq_true rfl, Nat.le_of_ble_eq_true rfl, Nat.le_of_ble_eq_true rfl⟩ dX8_mosts_179 ?_
  refine x_lstore_n (M := [some _, some _, some _, none, none, none, none]) (pc := 182) C dX8_mosts_182 rfl (by decide) rfl ?_
  refine x_lload_n (pc := 183) C dX8_mosts_183 rfl rfl ?_
  refine x_lconst (v := 0) (pc := 184) C dX8_mosts_184 (by decide) ?_
  refine x_lcmp (pc := 185) C dX8_mosts_185 ?_
  refine x_lif_ne (pc := 186) (tgt := 193) C dX8_mosts_186 (by decide) (fun q => ?_) (fun q => ?_)
  · rw [if_pos q] at h
    refine x_iconst (v := 1) (pc := 189) C dX8_mosts_189 (by decide) ?_
    refine x_goto (tgt := 194) (pc := 190) C dX8_mosts_190 (by decide) ?_
    exact x_sub (tX8_mosts_194 C hr h) (xLe_s (xLe_s (xLe_s (xLe_n (xLe_n (xLe_n (xLe_n xLe_0)))))))
  · rw [if_neg q] at h
    refine x_iconst (v := 0) (pc := 193) C dX8_mosts_193 (by decide) ?_
    exact x_sub (tX8_mosts_194 C hr h) (xLe_s (xLe_s (xLe_s (xLe_n (xLe_n (xLe_n (xLe_n xLe_0)))))))
def DX8_mosts_53 (l0 : Nat) (l1 : Int32) (σ : Sg) : Option (Unit × Sg) :=
  DX8_mosts_177 l0 l1 σ
theorem tX8_mosts_53 {r : Unit} {σ' : Sg} (C : Cx E p s m args meth c RX8 cX8_mosts 7) (hr : meth.sig.returnType = none) {l0 : Nat} {l1 : Int32} {σ : Sg} (h : DX8_mosts_53 l0 l1 σ = some (r, σ')) : Y E p l e (rmA 2 0 0) s m args below meth c none σ' 0 0 7 0 0 σ 53 [some (.ref (ad E l0)), some (.int l1), none, none, none, none, none] [] := by
  unfold DX8_mosts_53 at h
  refine x_goto (tgt := 177) (pc := 53) C dX8_mosts_53 (by decide) ?_
  exact x_sub (tX8_mosts_177 C hr h) (xLe_s (xLe_s (xLe_n (xLe_n (xLe_n (xLe_n (xLe_n xLe_0)))))))
def DX8_mosts_110 (K0 : Nat → Int32 → Sg → Option (Unit × Sg)) (K69 : Nat → Int32 → Int64 → Int64 → Int32 → Sg → Option (Unit × Sg)) (l0 : Nat) (l1 : Int32) (l2 : Int64) (l4 : Int64) (l6 : Int32) (σ : Sg) : Option (Unit × Sg) :=
  K69 l0 l1 l2 l4 (l6 + (1 : Int32)) σ
theorem tX8_mosts_110 {r : Unit} {σ' : Sg} (C : Cx E p s m args meth c RX8 cX8_mosts 7) (hr : meth.sig.returnType = none) {K0 : Nat → Int32 → Sg → Option (Unit × Sg)} (hK0 : ∀ (l0 : Nat) (l1 : Int32) (σ : Sg), K0 l0 l1 σ = some (r, σ') → Y E p l e (rmA 2 0 0) s m args below meth c none σ' 0 0 7 0 0 σ 0 [some (.ref (ad E l0)), some (.int l1), none, none, none, none, none] []) {K69 : Nat → Int32 → Int64 → Int64 → Int32 → Sg → Option (Unit × Sg)} (hK69 : ∀ (l0 : Nat) (l1 : Int32) (l2 : Int64) (l4 : Int64) (l6 : Int32) (σ : Sg), K69 l0 l1 l2 l4 l6 σ = some (r, σ') → Y E p l e (rmA 2 0 0) s m args below meth c none σ' 0 0 7 0 0 σ 69 [some (.ref (ad E l0)), some (.int l1), some (.long l2), none, some (.long l4), none, some (.int l6)] []) {l0 : Nat} {l1 : Int32} {l2 : Int64} {l4 : Int64} {l6 : Int32} {σ : Sg} (h : DX8_mosts_110 K0 K69 l0 l1 l2 l4 l6 σ = some (r, σ')) : Y E p l e (rmA 2 0 0) s m args below meth c none σ' 0 0 7 0 0 σ 110 [some (.ref (ad E l0)), some (.int l1), some (.long l2), none, some (.long l4), none, some (.int l6)] [] := by
  unfold DX8_mosts_110 at h
  refine x_iinc (v := 1) (M := [some _, some _, some _, none, some _, none, some _]) (pc := 110) C dX8_mosts_110 rfl (by decide) (by decide) rfl ?_
  refine x_goto (tgt := 69) (pc := 113) C dX8_mosts_113 (by decide) ?_
  exact x_sub (hK69 _ _ _ _ _ _ h) (xLe_s (xLe_s (xLe_s (xLe_n (xLe_s (xLe_n (xLe_s xLe_0)))))))
def DX8_mosts_144 (K0 : Nat → Int32 → Sg → Option (Unit × Sg)) (K119 : Nat → Int32 → Int64 → Int32 → Sg → Option (Unit × Sg)) (l0 : Nat) (l1 : Int32) (l4 : Int64) (l6 : Int32) (σ : Sg) : Option (Unit × Sg) :=
  K119 l0 l1 l4 (l6 + (1 : Int32)) σ
theorem tX8_mosts_144 {r : Unit} {σ' : Sg} (C : Cx E p s m args meth c RX8 cX8_mosts 7) (hr : meth.sig.returnType = none) {K0 : Nat → Int32 → Sg → Option (Unit × Sg)} (hK0 : ∀ (l0 : Nat) (l1 : Int32) (σ : Sg), K0 l0 l1 σ = some (r, σ') → Y E p l e (rmA 2 0 0) s m args below meth c none σ' 0 0 7 0 0 σ 0 [some (.ref (ad E l0)), some (.int l1), none, none, none, none, none] []) {K119 : Nat → Int32 → Int64 → Int32 → Sg → Option (Unit × Sg)} (hK119 : ∀ (l0 : Nat) (l1 : Int32) (l4 : Int64) (l6 : Int32) (σ : Sg), K119 l0 l1 l4 l6 σ = some (r, σ') → Y E p l e (rmA 2 0 0) s m args below meth c none σ' 0 0 7 0 0 σ 119 [some (.ref (ad E l0)), some (.int l1), none, none, some (.long l4), none, some (.int l6)] []) {l0 : Nat} {l1 : Int32} {l4 : Int64} {l6 : Int32} {σ : Sg} (h : DX8_mosts_144 K0 K119 l0 l1 l4 l6 σ = some (r, σ')) : Y E p l e (rmA 2 0 0) s m args below meth c none σ' 0 0 7 0 0 σ 144 [some (.ref (ad E l0)), some (.int l1), none, none, some (.long l4), none, some (.int l6)] [] := by
  unfold DX8_mosts_144 at h
  refine x_iinc (v := 1) (M := [some _, some _, none, none, some _, none, some _]) (pc := 144) C dX8_mosts_144 rfl (by decide) (by decide) rfl ?_
  refine x_goto (tgt := 119) (pc := 147) C dX8_mosts_147 (by decide) ?_
  exact x_sub (hK119 _ _ _ _ _ h) (xLe_s (xLe_s (xLe_n (xLe_n (xLe_s (xLe_n (xLe_s xLe_0)))))))
def DX8_mosts_171 (l0 : Nat) (l1 : Int32) (σ : Sg) : Option (Unit × Sg) :=
  DX8_mosts_177 l0 l1 σ
theorem tX8_mosts_171 {r : Unit} {σ' : Sg} (C : Cx E p s m args meth c RX8 cX8_mosts 7) (hr : meth.sig.returnType = none) {l0 : Nat} {l1 : Int32} {σ : Sg} (h : DX8_mosts_171 l0 l1 σ = some (r, σ')) : Y E p l e (rmA 2 0 0) s m args below meth c none σ' 0 0 7 0 0 σ 171 [some (.ref (ad E l0)), some (.int l1), none, none, none, none, none] [] := by
  unfold DX8_mosts_171 at h
  refine x_goto (tgt := 177) (pc := 171) C dX8_mosts_171 (by decide) ?_
  exact x_sub (tX8_mosts_177 C hr h) (xLe_s (xLe_s (xLe_n (xLe_n (xLe_n (xLe_n (xLe_n xLe_0)))))))
def DX8_mosts_150 (K0 : Nat → Int32 → Sg → Option (Unit × Sg)) (l0 : Nat) (l1 : Int32) (l4 : Int64) (σ : Sg) : Option (Unit × Sg) :=
  chk (ckO σ 6 l0) <|
  chk (ckO σ 6 l0) <|
  wlet (pJ σ l0 48 ((gJ σ l0 48) - l4)) fun σ1 =>
  chk (ckO σ1 6 l0) <|
  bnd (DX8_freeFactors l0 l1 σ1) fun v2 σ3 =>
  if v2 = (0 : Int64) then
    DX8_mosts_171 l0 l1 σ3
  else
    K0 l0 l1 σ3
theorem tX8_mosts_150 {r : Unit} {σ' : Sg} (C : Cx E p s m args meth c RX8 cX8_mosts 7) (hr : meth.sig.returnType = none) {K0 : Nat → Int32 → Sg → Option (Unit × Sg)} (hK0 : ∀ (l0 : Nat) (l1 : Int32) (σ : Sg), K0 l0 l1 σ = some (r, σ') → Y E p l e (rmA 2 0 0) s m args below meth c none σ' 0 0 7 0 0 σ 0 [some (.ref (ad E l0)), some (.int l1), none, none, none, none, none] []) {l0 : Nat} {l1 : Int32} {l4 : Int64} {σ : Sg} (h : DX8_mosts_150 K0 l0 l1 l4 σ = some (r, σ')) : Y E p l e (rmA 2 0 0) s m args below meth c none σ' 0 0 7 0 0 σ 150 [some (.ref (ad E l0)), some (.int l1), none, none, some (.long l4), none, none] [] := by
  unfold DX8_mosts_150 at h
  refine x_aload_n (pc := 150) C dX8_mosts_150 rfl rfl ?_
  refine x_dup (pc := 151) C dX8_mosts_151 rfl ?_
  obtain ⟨k, h⟩ := chk_s h
  refine x_getJ (pc := 152) C fX8_354 rfl k dX8_mosts_152 ?_
  refine x_lload (pc := 155) C dX8_mosts_155 rfl ?_
  refine x_lsub (pc := 157) C dX8_mosts_157 ?_
  obtain ⟨k, h⟩ := chk_s h
  obtain ⟨σ1, e1, h⟩ := wlet_s h
  refine x_putJ (pc := 158) C pX8_354 rfl k dX8_mosts_158 (x_eq e1 ?_)
  refine x_aload_n (pc := 161) C dX8_mosts_161 rfl rfl ?_
  refine x_iload_n (pc := 162) C dX8_mosts_162 rfl rfl ?_
  obtain ⟨k, h⟩ := chk_s h
  have k2 := k
  obtain ⟨v2, σ3, k, h⟩ := bnd_s h
  refine x_callV1 (pc := 163) C (mX8_freeFactors E l k) cl6 k2 cX8_370 nX8_freeFactors sX8_freeFactors rfl rfl (Nat.le_of_ble_eq_true rfl) ⟨Nat.le_of_ble_eq_true rfl, Nat.le_of_ble_eq_true rfl, Nat.le_of_ble_eq_true rfl, Nat.le_of_ble_eq_true rfl⟩ dX8_mosts_163 ?_
  refine x_lconst (v := 0) (pc := 166) C dX8_mosts_166 (by decide) ?_
  refine x_lcmp (pc := 167) C dX8_mosts_167 ?_
  refine x_lif_ne (pc := 168) (tgt := 174) C dX8_mosts_168 (by decide) (fun q => ?_) (fun q => ?_)
  · rw [if_pos q] at h
    exact x_sub (tX8_mosts_171 C hr h) (xLe_s (xLe_s (xLe_n (xLe_n (xLe_n (xLe_n (xLe_n xLe_0)))))))
  · rw [if_neg q] at h
    refine x_goto (tgt := 0) (pc := 174) C dX8_mosts_174 (by decide) ?_
    exact x_sub (hK0 _ _ _ h) (xLe_s (xLe_s (xLe_n (xLe_n (xLe_n (xLe_n (xLe_n xLe_0)))))))
def DX8_mosts_119 (K0 : Nat → Int32 → Sg → Option (Unit × Sg)) : Nat → Nat → Int32 → Int64 → Int32 → Sg → Option (Unit × Sg)
  | 0, _, _, _, _, _ => none
  | n + 1, l0, l1, l4, l6, σ =>
    if l1 ≤ l6 then
      DX8_mosts_150 K0 l0 l1 l4 σ
    else
      chk (ckO σ 6 l0) <|
      chk (ckV (gR σ l0 45)) <|
      chk (ckI σ (gR σ l0 45) l6) <|
      if (aI σ (gR σ l0 45) l6.toNatClampNeg) = (4 : Int32) then
        chk (ckO σ 6 l0) <|
        chk (ckV (gR σ l0 46)) <|
        chk (ckZ σ (gR σ l0 46) l6) <|
        chk (ck01 (0 : Int32)) <|
        wlet (wI σ (gR σ l0 46) l6.toNatClampNeg (0 : Int32)) fun σ1 =>
        DX8_mosts_144 K0 (DX8_mosts_119 K0 n) l0 l1 l4 l6 σ1
      else
        DX8_mosts_144 K0 (DX8_mosts_119 K0 n) l0 l1 l4 l6 σ
theorem tX8_mosts_119 {r : Unit} {σ' : Sg} (C : Cx E p s m args meth c RX8 cX8_mosts 7) (hr : meth.sig.returnType = none) {K0 : Nat → Int32 → Sg → Option (Unit × Sg)} (hK0 : ∀ (l0 : Nat) (l1 : Int32) (σ : Sg), K0 l0 l1 σ = some (r, σ') → Y E p l e (rmA 2 0 0) s m args below meth c none σ' 0 0 7 0 0 σ 0 [some (.ref (ad E l0)), some (.int l1), none, none, none, none, none] []) : ∀ (n : Nat) (l0 : Nat) (l1 : Int32) (l4 : Int64) (l6 : Int32) (σ : Sg) (h : DX8_mosts_119 K0 n l0 l1 l4 l6 σ = some (r, σ')), Y E p l e (rmA 2 0 0) s m args below meth c none σ' 0 0 7 0 0 σ 119 [some (.ref (ad E l0)), some (.int l1), none, none, some (.long l4), none, some (.int l6)] [] := by
  intro n
  induction n with
  | zero => intro l0 l1 l4 l6 σ h; cases h
  | succ n ih =>
    intro l0 l1 l4 l6 σ h
    unfold DX8_mosts_119 at h
    refine x_iload (pc := 119) C dX8_mosts_119 rfl ?_
    refine x_iload_n (pc := 121) C dX8_mosts_121 rfl rfl ?_
    refine x_icmp_ge (pc := 122) (tgt := 150) C dX8_mosts_122 (by decide) (fun q => ?_) (fun q => ?_)
    · rw [if_pos q] at h
      exact x_sub (tX8_mosts_150 C hr hK0 h) (xLe_s (xLe_s (xLe_n (xLe_n (xLe_s (xLe_n (xLe_n xLe_0)))))))
    · rw [if_neg q] at h
      refine x_aload_n (pc := 125) C dX8_mosts_125 rfl rfl ?_
      obtain ⟨k, h⟩ := chk_s h
      have k2 := k
      obtain ⟨k, h⟩ := chk_s h
      refine x_getR (pc := 126) C fX8_81 rfl k2 k dX8_mosts_126 ?_
      refine x_iload (pc := 129) C dX8_mosts_129 rfl ?_
      obtain ⟨k, h⟩ := chk_s h
      refine x_iald (pc := 131) C k dX8_mosts_131 ?_
      refine x_iconst (v := 4) (pc := 132) C dX8_mosts_132 (by decide) ?_
      refine x_icmp_ne (pc := 133) (tgt := 144) C dX8_mosts_133 (by decide) (fun q => ?_) (fun q => ?_)
      · rw [if_pos q] at h
        refine x_aload_n (pc := 136) C dX8_mosts_136 rfl rfl ?_
        obtain ⟨k, h⟩ := chk_s h
        have k2 := k
        obtain ⟨k, h⟩ := chk_s h
        refine x_getR (pc := 137) C fX8_84 rfl k2 k dX8_mosts_137 ?_
        refine x_iload (pc := 140) C dX8_mosts_140 rfl ?_
        refine x_iconst (v := 0) (pc := 142) C dX8_mosts_142 (by decide) ?_
        obtain ⟨k, h⟩ := chk_s h
        have k2 := k
        obtain ⟨k, h⟩ := chk_s h
        obtain ⟨σ1, e1, h⟩ := wlet_s h
        refine x_zast (pc := 143) C k2 k dX8_mosts_143 (x_eq e1 ?_)
        exact x_sub (tX8_mosts_144 C hr hK0 ih h) (xLe_s (xLe_s (xLe_n (xLe_n (xLe_s (xLe_n (xLe_s xLe_0)))))))
      · rw [if_neg q] at h
        exact x_sub (tX8_mosts_144 C hr hK0 ih h) (xLe_s (xLe_s (xLe_n (xLe_n (xLe_s (xLe_n (xLe_s xLe_0)))))))
def DX8_mosts_116 (K0 : Nat → Int32 → Sg → Option (Unit × Sg)) (l0 : Nat) (l1 : Int32) (l4 : Int64) (σ : Sg) : Option (Unit × Sg) :=
  DX8_mosts_119 K0 FU l0 l1 l4 (0 : Int32) σ
theorem tX8_mosts_116 {r : Unit} {σ' : Sg} (C : Cx E p s m args meth c RX8 cX8_mosts 7) (hr : meth.sig.returnType = none) {K0 : Nat → Int32 → Sg → Option (Unit × Sg)} (hK0 : ∀ (l0 : Nat) (l1 : Int32) (σ : Sg), K0 l0 l1 σ = some (r, σ') → Y E p l e (rmA 2 0 0) s m args below meth c none σ' 0 0 7 0 0 σ 0 [some (.ref (ad E l0)), some (.int l1), none, none, none, none, none] []) {l0 : Nat} {l1 : Int32} {l4 : Int64} {σ : Sg} (h : DX8_mosts_116 K0 l0 l1 l4 σ = some (r, σ')) : Y E p l e (rmA 2 0 0) s m args below meth c none σ' 0 0 7 0 0 σ 116 [some (.ref (ad E l0)), some (.int l1), none, none, some (.long l4), none, none] [] := by
  unfold DX8_mosts_116 at h
  refine x_iconst (v := 0) (pc := 116) C dX8_mosts_116 (by decide) ?_
  refine x_istore (M := [some _, some _, none, none, some _, none, some _]) (pc := 117) C dX8_mosts_117 (by decide) rfl ?_
  exact x_sub (tX8_mosts_119 C hr hK0 FU _ _ _ _ _ h) (xLe_s (xLe_s (xLe_n (xLe_n (xLe_s (xLe_n (xLe_s xLe_0)))))))
def DX8_mosts_69 (K0 : Nat → Int32 → Sg → Option (Unit × Sg)) : Nat → Nat → Int32 → Int64 → Int64 → Int32 → Sg → Option (Unit × Sg)
  | 0, _, _, _, _, _, _ => none
  | n + 1, l0, l1, l2, l4, l6, σ =>
    if l1 ≤ l6 then
      DX8_mosts_116 K0 l0 l1 l4 σ
    else
      chk (ckO σ 6 l0) <|
      bnd (DX8_isLong l0 l6 l2 σ) fun v1 σ2 =>
      if v1 = 0 then
        DX8_mosts_110 K0 (DX8_mosts_69 K0 n) l0 l1 l2 l4 l6 σ2
      else
        chk (ckO σ2 6 l0) <|
        chk (ckV (gR σ2 l0 45)) <|
        chk (ckI σ2 (gR σ2 l0 45) l6) <|
        wlet (wI σ2 (gR σ2 l0 45) l6.toNatClampNeg (4 : Int32)) fun σ3 =>
        chk (ckO σ3 6 l0) <|
        chk (ckV (gR σ3 l0 40)) <|
        chk (ckO σ3 6 l0) <|
        chk (ckV (gR σ3 l0 43)) <|
        chk (ckJ σ3 (gR σ3 l0 43) l6) <|
        chk (ckJ σ3 (gR σ3 l0 40) l6) <|
        wlet (wJ σ3 (gR σ3 l0 40) l6.toNatClampNeg (aJ σ3 (gR σ3 l0 43) l6.toNatClampNeg)) fun σ4 =>
        DX8_mosts_110 K0 (DX8_mosts_69 K0 n) l0 l1 l2 l4 l6 σ4
theorem tX8_mosts_69 {r : Unit} {σ' : Sg} (C : Cx E p s m args meth c RX8 cX8_mosts 7) (hr : meth.sig.returnType = none) {K0 : Nat → Int32 → Sg → Option (Unit × Sg)} (hK0 : ∀ (l0 : Nat) (l1 : Int32) (σ : Sg), K0 l0 l1 σ = some (r, σ') → Y E p l e (rmA 2 0 0) s m args below meth c none σ' 0 0 7 0 0 σ 0 [some (.ref (ad E l0)), some (.int l1), none, none, none, none, none] []) : ∀ (n : Nat) (l0 : Nat) (l1 : Int32) (l2 : Int64) (l4 : Int64) (l6 : Int32) (σ : Sg) (h : DX8_mosts_69 K0 n l0 l1 l2 l4 l6 σ = some (r, σ')), Y E p l e (rmA 2 0 0) s m args below meth c none σ' 0 0 7 0 0 σ 69 [some (.ref (ad E l0)), some (.int l1), some (.long l2), none, some (.long l4), none, some (.int l6)] [] := by
  intro n
  induction n with
  | zero => intro l0 l1 l2 l4 l6 σ h; cases h
  | succ n ih =>
    intro l0 l1 l2 l4 l6 σ h
    unfold DX8_mosts_69 at h
    refine x_iload (pc := 69) C dX8_mosts_69 rfl ?_
    refine x_iload_n (pc := 71) C dX8_mosts_71 rfl rfl ?_
    refine x_icmp_ge (pc := 72) (tgt := 116) C dX8_mosts_72 (by decide) (fun q => ?_) (fun q => ?_)
    · rw [if_pos q] at h
      exact x_sub (tX8_mosts_116 C hr hK0 h) (xLe_s (xLe_s (xLe_n (xLe_n (xLe_s (xLe_n (xLe_n xLe_0)))))))
    · rw [if_neg q] at h
      refine x_aload_n (pc := 75) C dX8_mosts_75 rfl rfl ?_
      refine x_iload (pc := 76) C dX8_mosts_76 rfl ?_
      refine x_lload_n (pc := 78) C dX8_mosts_78 rfl rfl ?_
      obtain ⟨k, h⟩ := chk_s h
      have k2 := k
      obtain ⟨v1, σ2, k, h⟩ := bnd_s h
      refine x_callV1 (pc := 79) C (mX8_isLong E l k) cl6 k2 cX8_380 nX8_isLong sX8_isLong rfl rfl (Nat.le_of_ble_eq_true rfl) ⟨Nat.le_of_ble_eq_true rfl, Nat.le_of_ble_eq_true rfl, Nat.le_of_ble_eq_true rfl, Nat.le_of_ble_eq_true rfl⟩ dX8_mosts_79 ?_
      refine x_if_ne (pc := 82) (tgt := 88) C dX8_mosts_82 (by decide) (fun q => ?_) (fun q => ?_)
      · rw [if_pos q] at h
        refine x_goto (tgt := 110) (pc := 85) C dX8_mosts_85 (by decide) ?_
        exact x_sub (tX8_mosts_110 C hr hK0 ih h) (xLe_s (xLe_s (xLe_s (xLe_n (xLe_s (xLe_n (xLe_s xLe_0)))))))
      · rw [if_neg q] at h
        refine x_aload_n (pc := 88) C dX8_mosts_88 rfl rfl ?_
        obtain ⟨k, h⟩ := chk_s h
        have k2 := k
        obtain ⟨k, h⟩ := chk_s h
        refine x_getR (pc := 89) C fX8_81 rfl k2 k dX8_mosts_89 ?_
        refine x_iload (pc := 92) C dX8_mosts_92 rfl ?_
        refine x_iconst (v := 4) (pc := 94) C dX8_mosts_94 (by decide) ?_
        obtain ⟨k, h⟩ := chk_s h
        obtain ⟨σ3, e1, h⟩ := wlet_s h
        refine x_iast (pc := 95) C k dX8_mosts_95 (x_eq e1 ?_)
        refine x_aload_n (pc := 96) C dX8_mosts_96 rfl rfl ?_
        obtain ⟨k, h⟩ := chk_s h
        have k2 := k
        obtain ⟨k, h⟩ := chk_s h
        refine x_getR (pc := 97) C fX8_65 rfl k2 k dX8_mosts_97 ?_
        refine x_iload (pc := 100) C dX8_mosts_100 rfl ?_
        refine x_aload_n (pc := 102) C dX8_mosts_102 rfl rfl ?_
        obtain ⟨k, h⟩ := chk_s h
        have k2 := k
        obtain ⟨k, h⟩ := chk_s h
        refine x_getR (pc := 103) C fX8_75 rfl k2 k dX8_mosts_103 ?_
        refine x_iload (pc := 106) C dX8_mosts_106 rfl ?_
        obtain ⟨k, h⟩ := chk_s h
        refine x_lald (pc := 108) C k dX8_mosts_108 ?_
        obtain ⟨k, h⟩ := chk_s h
        obtain ⟨σ4, e1, h⟩ := wlet_s h
        refine x_last (pc := 109) C k dX8_mosts_109 (x_eq e1 ?_)
        exact x_sub (tX8_mosts_110 C hr hK0 ih h) (xLe_s (xLe_s (xLe_s (xLe_n (xLe_s (xLe_n (xLe_s xLe_0)))))))
def DX8_mosts_46 (K0 : Nat → Int32 → Sg → Option (Unit × Sg)) (l0 : Nat) (l1 : Int32) (l2 : Int64) (l4 : Int64) (σ : Sg) : Option (Unit × Sg) :=
  if l4 = (0 : Int64) then
    DX8_mosts_53 l0 l1 σ
  else
    chk (ckO σ 6 l0) <|
    chk (ckO σ 6 l0) <|
    wlet (pI σ l0 49 ((gI σ l0 49) + (1 : Int32))) fun σ1 =>
    DX8_mosts_69 K0 FU l0 l1 l2 l4 (0 : Int32) σ1
theorem tX8_mosts_46 {r : Unit} {σ' : Sg} (C : Cx E p s m args meth c RX8 cX8_mosts 7) (hr : meth.sig.returnType = none) {K0 : Nat → Int32 → Sg → Option (Unit × Sg)} (hK0 : ∀ (l0 : Nat) (l1 : Int32) (σ : Sg), K0 l0 l1 σ = some (r, σ') → Y E p l e (rmA 2 0 0) s m args below meth c none σ' 0 0 7 0 0 σ 0 [some (.ref (ad E l0)), some (.int l1), none, none, none, none, none] []) {l0 : Nat} {l1 : Int32} {l2 : Int64} {l4 : Int64} {σ : Sg} (h : DX8_mosts_46 K0 l0 l1 l2 l4 σ = some (r, σ')) : Y E p l e (rmA 2 0 0) s m args below meth c none σ' 0 0 7 0 0 σ 46 [some (.ref (ad E l0)), some (.int l1), some (.long l2), none, some (.long l4), none, none] [] := by
  unfold DX8_mosts_46 at h
  refine x_lload (pc := 46) C dX8_mosts_46 rfl ?_
  refine x_lconst (v := 0) (pc := 48) C dX8_mosts_48 (by decide) ?_
  refine x_lcmp (pc := 49) C dX8_mosts_49 ?_
  refine x_lif_ne (pc := 50) (tgt := 56) C dX8_mosts_50 (by decide) (fun q => ?_) (fun q => ?_)
  · rw [if_pos q] at h
    exact x_sub (tX8_mosts_53 C hr h) (xLe_s (xLe_s (xLe_n (xLe_n (xLe_n (xLe_n (xLe_n xLe_0)))))))
  · rw [if_neg q] at h
    refine x_aload_n (pc := 56) C dX8_mosts_56 rfl rfl ?_
    refine x_dup (pc := 57) C dX8_mosts_57 rfl ?_
    obtain ⟨k, h⟩ := chk_s h
    refine x_getI (pc := 58) C fX8_332 rfl k dX8_mosts_58 ?_
    refine x_iconst (v := 1) (pc := 61) C dX8_mosts_61 (by decide) ?_
    refine x_iadd (pc := 62) C dX8_mosts_62 ?_
    obtain ⟨k, h⟩ := chk_s h
    obtain ⟨σ1, e1, h⟩ := wlet_s h
    refine x_putI (pc := 63) C pX8_332 rfl k dX8_mosts_63 (x_eq e1 ?_)
    refine x_iconst (v := 0) (pc := 66) C dX8_mosts_66 (by decide) ?_
    refine x_istore (M := [some _, some _, some _, none, some _, none, some _]) (pc := 67) C dX8_mosts_67 (by decide) rfl ?_
    exact x_sub (tX8_mosts_69 C hr hK0 FU _ _ _ _ _ _ h) (xLe_s (xLe_s (xLe_s (xLe_n (xLe_s (xLe_n (xLe_s xLe_0)))))))
def DX8_mosts_12 (K0 : Nat → Int32 → Sg → Option (Unit × Sg)) : Nat → Nat → Int32 → Int64 → Int64 → Int32 → Sg → Option (Unit × Sg)
  | 0, _, _, _, _, _, _ => none
  | n + 1, l0, l1, l2, l4, l6, σ =>
    if l1 ≤ l6 then
      DX8_mosts_46 K0 l0 l1 l2 l4 σ
    else
      chk (ckO σ 6 l0) <|
      bnd (DX8_isLong l0 l6 l2 σ) fun v1 σ2 =>
      if v1 = 0 then
        DX8_mosts_40 K0 (DX8_mosts_12 K0 n) l0 l1 l2 l4 l6 σ2
      else
        chk (ckO σ2 6 l0) <|
        chk (ckV (gR σ2 l0 43)) <|
        chk (ckJ σ2 (gR σ2 l0 43) l6) <|
        DX8_mosts_40 K0 (DX8_mosts_12 K0 n) l0 l1 l2 (l4 + (aJ σ2 (gR σ2 l0 43) l6.toNatClampNeg)) l6 σ2
theorem tX8_mosts_12 {r : Unit} {σ' : Sg} (C : Cx E p s m args meth c RX8 cX8_mosts 7) (hr : meth.sig.returnType = none) {K0 : Nat → Int32 → Sg → Option (Unit × Sg)} (hK0 : ∀ (l0 : Nat) (l1 : Int32) (σ : Sg), K0 l0 l1 σ = some (r, σ') → Y E p l e (rmA 2 0 0) s m args below meth c none σ' 0 0 7 0 0 σ 0 [some (.ref (ad E l0)), some (.int l1), none, none, none, none, none] []) : ∀ (n : Nat) (l0 : Nat) (l1 : Int32) (l2 : Int64) (l4 : Int64) (l6 : Int32) (σ : Sg) (h : DX8_mosts_12 K0 n l0 l1 l2 l4 l6 σ = some (r, σ')), Y E p l e (rmA 2 0 0) s m args below meth c none σ' 0 0 7 0 0 σ 12 [some (.ref (ad E l0)), some (.int l1), some (.long l2), none, some (.long l4), none, some (.int l6)] [] := by
  intro n
  induction n with
  | zero => intro l0 l1 l2 l4 l6 σ h; cases h
  | succ n ih =>
    intro l0 l1 l2 l4 l6 σ h
    unfold DX8_mosts_12 at h
    refine x_iload (pc := 12) C dX8_mosts_12 rfl ?_
    refine x_iload_n (pc := 14) C dX8_mosts_14 rfl rfl ?_
    refine x_icmp_ge (pc := 15) (tgt := 46) C dX8_mosts_15 (by decide) (fun q => ?_) (fun q => ?_)
    · rw [if_pos q] at h
      exact x_sub (tX8_mosts_46 C hr hK0 h) (xLe_s (xLe_s (xLe_s (xLe_n (xLe_s (xLe_n (xLe_n xLe_0)))))))
    · rw [if_neg q] at h
      refine x_aload_n (pc := 18) C dX8_mosts_18 rfl rfl ?_
      refine x_iload (pc := 19) C dX8_mosts_19 rfl ?_
      refine x_lload_n (pc := 21) C dX8_mosts_21 rfl rfl ?_
      obtain ⟨k, h⟩ := chk_s h
      have k2 := k
      obtain ⟨v1, σ2, k, h⟩ := bnd_s h
      refine x_callV1 (pc := 22) C (mX8_isLong E l k) cl6 k2 cX8_380 nX8_isLong sX8_isLong rfl rfl (Nat.le_of_ble_eq_true rfl) ⟨Nat.le_of_ble_eq_true rfl, Nat.le_of_ble_eq_true rfl, Nat.le_of_ble_eq_true rfl, Nat.le_of_ble_eq_true rfl⟩ dX8_mosts_22 ?_
      refine x_if_eq (pc := 25) (tgt := 40) C dX8_mosts_25 (by decide) (fun q => ?_) (fun q => ?_)
      · rw [if_pos q] at h
        exact x_sub (tX8_mosts_40 C hr hK0 ih h) (xLe_s (xLe_s (xLe_s (xLe_n (xLe_s (xLe_n (xLe_s xLe_0)))))))
      · rw [if_neg q] at h
        refine x_lload (pc := 28) C dX8_mosts_28 rfl ?_
        refine x_aload_n (pc := 30) C dX8_mosts_30 rfl rfl ?_
        obtain ⟨k, h⟩ := chk_s h
        have k2 := k
        obtain ⟨k, h⟩ := chk_s h
        refine x_getR (pc := 31) C fX8_75 rfl k2 k dX8_mosts_31 ?_
        refine x_iload (pc := 34) C dX8_mosts_34 rfl ?_
        obtain ⟨k, h⟩ := chk_s h
        refine x_lald (pc := 36) C k dX8_mosts_36 ?_
        refine x_ladd (pc := 37) C dX8_mosts_37 ?_
        refine x_lstore (M := [some _, some _, some _, none, some _, none, some _]) (pc := 38) C dX8_mosts_38 (by decide) rfl ?_
        exact x_sub (tX8_mosts_40 C hr hK0 ih h) (xLe_s (xLe_s (xLe_s (xLe_n (xLe_s (xLe_n (xLe_s xLe_0)))))))
def DX8_mosts_0 : Nat → Nat → Int32 → Sg → Option (Unit × Sg)
  | 0, _, _, _ => none
  | n + 1, l0, l1, σ =>
    chk (ckO σ 6 l0) <|
    bnd (DX8_freeFactors l0 l1 σ) fun v1 σ2 =>
    DX8_mosts_12 (DX8_mosts_0 n) FU l0 l1 v1 (0 : Int64) (0 : Int32) σ2
theorem tX8_mosts_0 {r : Unit} {σ' : Sg} (C : Cx E p s m args meth c RX8 cX8_mosts 7) (hr : meth.sig.returnType = none) : ∀ (n : Nat) (l0 : Nat) (l1 : Int32) (σ : Sg) (h : DX8_mosts_0 n l0 l1 σ = some (r, σ')), Y E p l e (rmA 2 0 0) s m args below meth c none σ' 0 0 7 0 0 σ 0 [some (.ref (ad E l0)), some (.int l1), none, none, none, none, none] [] := by
  intro n
  induction n with
  | zero => intro l0 l1 σ h; cases h
  | succ n ih =>
    intro l0 l1 σ h
    unfold DX8_mosts_0 at h
    refine x_aload_n (pc := 0) C dX8_mosts_0 rfl rfl ?_
    refine x_iload_n (pc := 1) C dX8_mosts_1 rfl rfl ?_
    obtain ⟨k, h⟩ := chk_s h
    have k2 := k
    obtain ⟨v1, σ2, k, h⟩ := bnd_s h
    refine x_callV1 (pc := 2) C (mX8_freeFactors E l k) cl6 k2 cX8_370 nX8_freeFactors sX8_freeFactors rfl rfl (Nat.le_of_ble_eq_true rfl) ⟨Nat.le_of_ble_eq_true rfl, Nat.le_of_ble_eq_true rfl, Nat.le_of_ble_eq_true rfl, Nat.le_of_ble_eq_true rfl⟩ dX8_mosts_2 ?_
    refine x_lstore_n (M := [some _, some _, some _, none, none, none, none]) (pc := 5) C dX8_mosts_5 rfl (by decide) rfl ?_
    refine x_lconst (v := 0) (pc := 6) C dX8_mosts_6 (by decide) ?_
    refine x_lstore (M := [some _, some _, some _, none, some _, none, none]) (pc := 7) C dX8_mosts_7 (by decide) rfl ?_
    refine x_iconst (v := 0) (pc := 9) C dX8_mosts_9 (by decide) ?_
    refine x_istore (M := [some _, some _, some _, none, some _, none, some _]) (pc := 10) C dX8_mosts_10 (by decide) rfl ?_
    exact x_sub (tX8_mosts_12 C hr ih FU _ _ _ _ _ _ h) (xLe_s (xLe_s (xLe_s (xLe_n (xLe_s (xLe_n (xLe_s xLe_0)))))))
def DX8_mosts (l0 : Nat) (l1 : Int32) (σ : Sg) : Option (Unit × Sg) :=
  DX8_mosts_0 FU l0 l1 σ
theorem mX8_mosts (E : Ev) (l : Launch) {l0 : Nat} {l1 : Int32} {σ : Sg} {r : Unit} {σ' : Sg} (h : DX8_mosts l0 l1 σ = some (r, σ')) : Mt E l yX8_mosts cX8_mosts 7 none 2 0 0 [.ref (ad E l0), .int l1] σ none σ' := by
  refine Mt.ofX (by decide) (Nat.le_of_ble_eq_true rfl) (L0 := [some (.ref (ad E l0)), some (.int l1), none, none, none, none, none]) (xEntN_ok [.ref (ad E l0), .int l1] 7) (fun p e s m args below meth c C hr hn => ?_)
  unfold DX8_mosts at h
  exact x_sub (tX8_mosts_0 C hr FU _ _ _ h) (xLe_s (xLe_s (xLe_n (xLe_n (xLe_n (xLe_n (xLe_n xLe_0)))))))
def DX8_leasts_40 (K0 : Nat → Int32 → Sg → Option (Unit × Sg)) (K12 : Nat → Int32 → Int64 → Int64 → Int32 → Sg → Option (Unit × Sg)) (l0 : Nat) (l1 : Int32) (l2 : Int64) (l4 : Int64) (l6 : Int32) (σ : Sg) : Option (Unit × Sg) :=
  K12 l0 l1 l2 l4 (l6 + (1 : Int32)) σ
theorem tX8_leasts_40 {r : Unit} {σ' : Sg} (C : Cx E p s m args meth c RX8 cX8_leasts 8) (hr : meth.sig.returnType = none) {K0 : Nat → Int32 → Sg → Option (Unit × Sg)} (hK0 : ∀ (l0 : Nat) (l1 : Int32) (σ : Sg), K0 l0 l1 σ = some (r, σ') → Y E p l e (rmA 3 0 0) s m args below meth c none σ' 0 0 8 0 0 σ 0 [some (.ref (ad E l0)), some (.int l1), none, none, none, none, none, none] []) {K12 : Nat → Int32 → Int64 → Int64 → Int32 → Sg → Option (Unit × Sg)} (hK12 : ∀ (l0 : Nat) (l1 : Int32) (l2 : Int64) (l4 : Int64) (l6 : Int32) (σ : Sg), K12 l0 l1 l2 l4 l6 σ = some (r, σ') → Y E p l e (rmA 3 0 0) s m args below meth c none σ' 0 0 8 0 0 σ 12 [some (.ref (ad E l0)), some (.int l1), some (.long l2), none, some (.long l4), none, some (.int l6), none] []) {l0 : Nat} {l1 : Int32} {l2 : Int64} {l4 : Int64} {l6 : Int32} {σ : Sg} (h : DX8_leasts_40 K0 K12 l0 l1 l2 l4 l6 σ = some (r, σ')) : Y E p l e (rmA 3 0 0) s m args below meth c none σ' 0 0 8 0 0 σ 40 [some (.ref (ad E l0)), some (.int l1), some (.long l2), none, some (.long l4), none, some (.int l6), none] [] := by
  unfold DX8_leasts_40 at h
  refine x_iinc (v := 1) (M := [some _, some _, some _, none, some _, none, some _, none]) (pc := 40) C dX8_leasts_40 rfl (by decide) (by decide) rfl ?_
  refine x_goto (tgt := 12) (pc := 43) C dX8_leasts_43 (by decide) ?_
  exact x_sub (hK12 _ _ _ _ _ _ h) (xLe_s (xLe_s (xLe_s (xLe_n (xLe_s (xLe_n (xLe_s (xLe_n xLe_0))))))))
def DX8_leasts_53 (l0 : Nat) (l1 : Int32) (σ : Sg) : Option (Unit × Sg) :=
  chk (ckO σ 6 l0) <|
  bnd (DX8_mosts l0 l1 σ) fun _ σ1 =>
  some ((), σ1)
theorem tX8_leasts_53 {r : Unit} {σ' : Sg} (C : Cx E p s m args meth c RX8 cX8_leasts 8) (hr : meth.sig.returnType = none) {l0 : Nat} {l1 : Int32} {σ : Sg} (h : DX8_leasts_53 l0 l1 σ = some (r, σ')) : Y E p l e (rmA 3 0 0) s m args below meth c none σ' 0 0 8 0 0 σ 53 [some (.ref (ad E l0)), some (.int l1), none, none, none, none, none, none] [] := by
  unfold DX8_leasts_53 at h
  refine x_goto (tgt := 220) (pc := 53) C dX8_leasts_53 (by decide) ?_
  refine x_aload_n (pc := 220) C dX8_leasts_220 rfl rfl ?_
  refine x_iload_n (pc := 221) C dX8_leasts_221 rfl rfl ?_
  obtain ⟨k, h⟩ := chk_s h
  have k2 := k
  obtain ⟨u0, σ1, k, h⟩ := bnd_s h
  refine x_callV0 (pc := 222) C (mX8_mosts E l k) cl6 k2 cX8_377 nX8_mosts sX8_mosts rfl rfl (Nat.le_of_ble_eq_true rfl) ⟨Nat.le_of_ble_eq_true rfl, Nat.le_of_ble_eq_true rfl, Nat.le_of_ble_eq_true rfl, Nat.le_of_ble_eq_true rfl⟩ dX8_leasts_222 ?_
  cases h
  exact x_vret C hr dX8_leasts_225
def DX8_leasts_154 (K0 : Nat → Int32 → Sg → Option (Unit × Sg)) (K86 : Nat → Int32 → Int64 → Int64 → Int32 → Int32 → Sg → Option (Unit × Sg)) (l0 : Nat) (l1 : Int32) (l2 : Int64) (l4 : Int64) (l6 : Int32) (l7 : Int32) (σ : Sg) : Option (Unit × Sg) :=
  K86 l0 l1 l2 l4 l6 (l7 + (1 : Int32)) σ
theorem tX8_leasts_154 {r : Unit} {σ' : Sg} (C : Cx E p s m args meth c RX8 cX8_leasts 8) (hr : meth.sig.returnType = none) {K0 : Nat → Int32 → Sg → Option (Unit × Sg)} (hK0 : ∀ (l0 : Nat) (l1 : Int32) (σ : Sg), K0 l0 l1 σ = some (r, σ') → Y E p l e (rmA 3 0 0) s m args below meth c none σ' 0 0 8 0 0 σ 0 [some (.ref (ad E l0)), some (.int l1), none, none, none, none, none, none] []) {K86 : Nat → Int32 → Int64 → Int64 → Int32 → Int32 → Sg → Option (Unit × Sg)} (hK86 : ∀ (l0 : Nat) (l1 : Int32) (l2 : Int64) (l4 : Int64) (l6 : Int32) (l7 : Int32) (σ : Sg), K86 l0 l1 l2 l4 l6 l7 σ = some (r, σ') → Y E p l e (rmA 3 0 0) s m args below meth c none σ' 0 0 8 0 0 σ 86 [some (.ref (ad E l0)), some (.int l1), some (.long l2), none, some (.long l4), none, some (.int l6), some (.int l7)] []) {l0 : Nat} {l1 : Int32} {l2 : Int64} {l4 : Int64} {l6 : Int32} {l7 : Int32} {σ : Sg} (h : DX8_leasts_154 K0 K86 l0 l1 l2 l4 l6 l7 σ = some (r, σ')) : Y E p l e (rmA 3 0 0) s m args below meth c none σ' 0 0 8 0 0 σ 154 [some (.ref (ad E l0)), some (.int l1), some (.long l2), none, some (.long l4), none, some (.int l6), some (.int l7)] [] := by
  unfold DX8_leasts_154 at h
  refine x_iinc (v := 1) (M := [some _, some _, some _, none, some _, none, some _, some _]) (pc := 154) C dX8_leasts_154 rfl (by decide) (by decide) rfl ?_
  refine x_goto (tgt := 86) (pc := 157) C dX8_leasts_157 (by decide) ?_
  exact x_sub (hK86 _ _ _ _ _ _ _ h) (xLe_s (xLe_s (xLe_s (xLe_n (xLe_s (xLe_n (xLe_s (xLe_s xLe_0))))))))
def DX8_leasts_165 (l0 : Nat) (l4 : Int64) (σ : Sg) : Option (Unit × Sg) :=
  chk (ckO σ 6 l0) <|
  wlet (pJ σ l0 47 l4) fun σ1 =>
  some ((), σ1)
theorem tX8_leasts_165 {r : Unit} {σ' : Sg} (C : Cx E p s m args meth c RX8 cX8_leasts 8) (hr : meth.sig.returnType = none) {l0 : Nat} {l4 : Int64} {σ : Sg} (h : DX8_leasts_165 l0 l4 σ = some (r, σ')) : Y E p l e (rmA 3 0 0) s m args below meth c none σ' 0 0 8 0 0 σ 165 [some (.ref (ad E l0)), none, none, none, some (.long l4), none, none, none] [] := by
  unfold DX8_leasts_165 at h
  refine x_aload_n (pc := 165) C dX8_leasts_165 rfl rfl ?_
  refine x_lload (pc := 166) C dX8_leasts_166 rfl ?_
  obtain ⟨k, h⟩ := chk_s h
  obtain ⟨σ1, e1, h⟩ := wlet_s h
  refine x_putJ (pc := 168) C pX8_338 rfl k dX8_leasts_168 (x_eq e1 ?_)
  cases h
  exact x_vret C hr dX8_leasts_171
def DX8_leasts_200 (K0 : Nat → Int32 → Sg → Option (Unit × Sg)) (K175 : Nat → Int32 → Int64 → Int32 → Sg → Option (Unit × Sg)) (l0 : Nat) (l1 : Int32) (l4 : Int64) (l7 : Int32) (σ : Sg) : Option (Unit × Sg) :=
  K175 l0 l1 l4 (l7 + (1 : Int32)) σ
theorem tX8_leasts_200 {r : Unit} {σ' : Sg} (C : Cx E p s m args meth c RX8 cX8_leasts 8) (hr : meth.sig.returnType = none) {K0 : Nat → Int32 → Sg → Option (Unit × Sg)} (hK0 : ∀ (l0 : Nat) (l1 : Int32) (σ : Sg), K0 l0 l1 σ = some (r, σ') → Y E p l e (rmA 3 0 0) s m args below meth c none σ' 0 0 8 0 0 σ 0 [some (.ref (ad E l0)), some (.int l1), none, none, none, none, none, none] []) {K175 : Nat → Int32 → Int64 → Int32 → Sg → Option (Unit × Sg)} (hK175 : ∀ (l0 : Nat) (l1 : Int32) (l4 : Int64) (l7 : Int32) (σ : Sg), K175 l0 l1 l4 l7 σ = some (r, σ') → Y E p l e (rmA 3 0 0) s m args below meth c none σ' 0 0 8 0 0 σ 175 [some (.ref (ad E l0)), some (.int l1), none, none, some (.long l4), none, none, some (.int l7)] []) {l0 : Nat} {l1 : Int32} {l4 : Int64} {l7 : Int32} {σ : Sg} (h : DX8_leasts_200 K0 K175 l0 l1 l4 l7 σ = some (r, σ')) : Y E p l e (rmA 3 0 0) s m args below meth c none σ' 0 0 8 0 0 σ 200 [some (.ref (ad E l0)), some (.int l1), none, none, some (.long l4), none, none, some (.int l7)] [] := by
  unfold DX8_leasts_200 at h
  refine x_iinc (v := 1) (M := [some _, some _, none, none, some _, none, none, some _]) (pc := 200) C dX8_leasts_200 rfl (by decide) (by decide) rfl ?_
  refine x_goto (tgt := 175) (pc := 203) C dX8_leasts_203 (by decide) ?_
  exact x_sub (hK175 _ _ _ _ _ h) (xLe_s (xLe_s (xLe_n (xLe_n (xLe_s (xLe_n (xLe_n (xLe_s xLe_0))))))))
def DX8_leasts_206 (K0 : Nat → Int32 → Sg → Option (Unit × Sg)) (l0 : Nat) (l1 : Int32) (l4 : Int64) (σ : Sg) : Option (Unit × Sg) :=
  chk (ckO σ 6 l0) <|
  chk (ckO σ 6 l0) <|
  wlet (pJ σ l0 48 ((gJ σ l0 48) - l4)) fun σ1 =>
  K0 l0 l1 σ1
theorem tX8_leasts_206 {r : Unit} {σ' : Sg} (C : Cx E p s m args meth c RX8 cX8_leasts 8) (hr : meth.sig.returnType = none) {K0 : Nat → Int32 → Sg → Option (Unit × Sg)} (hK0 : ∀ (l0 : Nat) (l1 : Int32) (σ : Sg), K0 l0 l1 σ = some (r, σ') → Y E p l e (rmA 3 0 0) s m args below meth c none σ' 0 0 8 0 0 σ 0 [some (.ref (ad E l0)), some (.int l1), none, none, none, none, none, none] []) {l0 : Nat} {l1 : Int32} {l4 : Int64} {σ : Sg} (h : DX8_leasts_206 K0 l0 l1 l4 σ = some (r, σ')) : Y E p l e (rmA 3 0 0) s m args below meth c none σ' 0 0 8 0 0 σ 206 [some (.ref (ad E l0)), some (.int l1), none, none, some (.long l4), none, none, none] [] := by
  unfold DX8_leasts_206 at h
  refine x_aload_n (pc := 206) C dX8_leasts_206 rfl rfl ?_
  refine x_dup (pc := 207) C dX8_leasts_207 rfl ?_
  obtain ⟨k, h⟩ := chk_s h
  refine x_getJ (pc := 208) C fX8_354 rfl k dX8_leasts_208 ?_
  refine x_lload (pc := 211) C dX8_leasts_211 rfl ?_
  refine x_lsub (pc := 213) C dX8_leasts_213 ?_
  obtain ⟨k, h⟩ := chk_s h
  obtain ⟨σ1, e1, h⟩ := wlet_s h
  refine x_putJ (pc := 214) C pX8_354 rfl k dX8_leasts_214 (x_eq e1 ?_)
  refine x_goto (tgt := 0) (pc := 217) C dX8_leasts_217 (by decide) ?_
  exact x_sub (hK0 _ _ _ h) (xLe_s (xLe_s (xLe_n (xLe_n (xLe_n (xLe_n (xLe_n (xLe_n xLe_0))))))))
def DX8_leasts_175 (K0 : Nat → Int32 → Sg → Option (Unit × Sg)) : Nat → Nat → Int32 → Int64 → Int32 → Sg → Option (Unit × Sg)
  | 0, _, _, _, _, _ => none
  | n + 1, l0, l1, l4, l7, σ =>
    if l1 ≤ l7 then
      DX8_leasts_206 K0 l0 l1 l4 σ
    else
      chk (ckO σ 6 l0) <|
      chk (ckV (gR σ l0 45)) <|
      chk (ckI σ (gR σ l0 45) l7) <|
      if (aI σ (gR σ l0 45) l7.toNatClampNeg) = (3 : Int32) then
        chk (ckO σ 6 l0) <|
        chk (ckV (gR σ l0 46)) <|
        chk (ckZ σ (gR σ l0 46) l7) <|
        chk (ck01 (0 : Int32)) <|
        wlet (wI σ (gR σ l0 46) l7.toNatClampNeg (0 : Int32)) fun σ1 =>
        DX8_leasts_200 K0 (DX8_leasts_175 K0 n) l0 l1 l4 l7 σ1
      else
        DX8_leasts_200 K0 (DX8_leasts_175 K0 n) l0 l1 l4 l7 σ
theorem tX8_leasts_175 {r : Unit} {σ' : Sg} (C : Cx E p s m args meth c RX8 cX8_leasts 8) (hr : meth.sig.returnType = none) {K0 : Nat → Int32 → Sg → Option (Unit × Sg)} (hK0 : ∀ (l0 : Nat) (l1 : Int32) (σ : Sg), K0 l0 l1 σ = some (r, σ') → Y E p l e (rmA 3 0 0) s m args below meth c none σ' 0 0 8 0 0 σ 0 [some (.ref (ad E l0)), some (.int l1), none, none, none, none, none, none] []) : ∀ (n : Nat) (l0 : Nat) (l1 : Int32) (l4 : Int64) (l7 : Int32) (σ : Sg) (h : DX8_leasts_175 K0 n l0 l1 l4 l7 σ = some (r, σ')), Y E p l e (rmA 3 0 0) s m args below meth c none σ' 0 0 8 0 0 σ 175 [some (.ref (ad E l0)), some (.int l1), none, none, some (.long l4), none, none, some (.int l7)] [] := by
  intro n
  induction n with
  | zero => intro l0 l1 l4 l7 σ h; cases h
  | succ n ih =>
    intro l0 l1 l4 l7 σ h
    unfold DX8_leasts_175 at h
    refine x_iload (pc := 175) C dX8_leasts_175 rfl ?_
    refine x_iload_n (pc := 177) C dX8_leasts_177 rfl rfl ?_
    refine x_icmp_ge (pc := 178) (tgt := 206) C dX8_leasts_178 (by decide) (fun q => ?_) (fun q => ?_)
    · rw [if_pos q] at h
      exact x_sub (tX8_leasts_206 C hr hK0 h) (xLe_s (xLe_s (xLe_n (xLe_n (xLe_s (xLe_n (xLe_n (xLe_n xLe_0))))))))
    · rw [if_neg q] at h
      refine x_aload_n (pc := 181) C dX8_leasts_181 rfl rfl ?_
      obtain ⟨k, h⟩ := chk_s h
      have k2 := k
      obtain ⟨k, h⟩ := chk_s h
      refine x_getR (pc := 182) C fX8_81 rfl k2 k dX8_leasts_182 ?_
      refine x_iload (pc := 185) C dX8_leasts_185 rfl ?_
      obtain ⟨k, h⟩ := chk_s h
      refine x_iald (pc := 187) C k dX8_leasts_187 ?_
      refine x_iconst (v := 3) (pc := 188) C dX8_leasts_188 (by decide) ?_
      refine x_icmp_ne (pc := 189) (tgt := 200) C dX8_leasts_189 (by decide) (fun q => ?_) (fun q => ?_)
      · rw [if_pos q] at h
        refine x_aload_n (pc := 192) C dX8_leasts_192 rfl rfl ?_
        obtain ⟨k, h⟩ := chk_s h
        have k2 := k
        obtain ⟨k, h⟩ := chk_s h
        refine x_getR (pc := 193) C fX8_84 rfl k2 k dX8_leasts_193 ?_
        refine x_iload (pc := 196) C dX8_leasts_196 rfl ?_
        refine x_iconst (v := 0) (pc := 198) C dX8_leasts_198 (by decide) ?_
        obtain ⟨k, h⟩ := chk_s h
        have k2 := k
        obtain ⟨k, h⟩ := chk_s h
        obtain ⟨σ1, e1, h⟩ := wlet_s h
        refine x_zast (pc := 199) C k2 k dX8_leasts_199 (x_eq e1 ?_)
        exact x_sub (tX8_leasts_200 C hr hK0 ih h) (xLe_s (xLe_s (xLe_n (xLe_n (xLe_s (xLe_n (xLe_n (xLe_s xLe_0))))))))
      · rw [if_neg q] at h
        exact x_sub (tX8_leasts_200 C hr hK0 ih h) (xLe_s (xLe_s (xLe_n (xLe_n (xLe_s (xLe_n (xLe_n (xLe_s xLe_0))))))))
def DX8_leasts_160 (K0 : Nat → Int32 → Sg → Option (Unit × Sg)) (l0 : Nat) (l1 : Int32) (l4 : Int64) (l6 : Int32) (σ : Sg) : Option (Unit × Sg) :=
  if l6 = 0 then
    DX8_leasts_175 K0 FU l0 l1 l4 (0 : Int32) σ
  else
    DX8_leasts_165 l0 l4 σ
theorem tX8_leasts_160 {r : Unit} {σ' : Sg} (C : Cx E p s m args meth c RX8 cX8_leasts 8) (hr : meth.sig.returnType = none) {K0 : Nat → Int32 → Sg → Option (Unit × Sg)} (hK0 : ∀ (l0 : Nat) (l1 : Int32) (σ : Sg), K0 l0 l1 σ = some (r, σ') → Y E p l e (rmA 3 0 0) s m args below meth c none σ' 0 0 8 0 0 σ 0 [some (.ref (ad E l0)), some (.int l1), none, none, none, none, none, none] []) {l0 : Nat} {l1 : Int32} {l4 : Int64} {l6 : Int32} {σ : Sg} (h : DX8_leasts_160 K0 l0 l1 l4 l6 σ = some (r, σ')) : Y E p l e (rmA 3 0 0) s m args below meth c none σ' 0 0 8 0 0 σ 160 [some (.ref (ad E l0)), some (.int l1), none, none, some (.long l4), none, some (.int l6), none] [] := by
  unfold DX8_leasts_160 at h
  refine x_iload (pc := 160) C dX8_leasts_160 rfl ?_
  refine x_if_eq (pc := 162) (tgt := 172) C dX8_leasts_162 (by decide) (fun q => ?_) (fun q => ?_)
  · rw [if_pos q] at h
    refine x_iconst (v := 0) (pc := 172) C dX8_leasts_172 (by decide) ?_
    refine x_istore (M := [some _, some _, none, none, some _, none, some _, some _]) (pc := 173) C dX8_leasts_173 (by decide) rfl ?_
    exact x_sub (tX8_leasts_175 C hr hK0 FU _ _ _ _ _ h) (xLe_s (xLe_s (xLe_n (xLe_n (xLe_s (xLe_n (xLe_n (xLe_s xLe_0))))))))
  · rw [if_neg q] at h
    exact x_sub (tX8_leasts_165 C hr h) (xLe_s (xLe_n (xLe_n (xLe_n (xLe_s (xLe_n (xLe_n (xLe_n xLe_0))))))))
def DX8_leasts_86 (K0 : Nat → Int32 → Sg → Option (Unit × Sg)) : Nat → Nat → Int32 → Int64 → Int64 → Int32 → Int32 → Sg → Option (Unit × Sg)
  | 0, _, _, _, _, _, _, _ => none
  | n + 1, l0, l1, l2, l4, l6, l7, σ =>
    if l1 ≤ l7 then
      DX8_leasts_160 K0 l0 l1 l4 l6 σ
    else
      chk (ckO σ 6 l0) <|
      bnd (DX8_isShort l0 l7 l2 σ) fun v1 σ2 =>
      if v1 = 0 then
        DX8_leasts_154 K0 (DX8_leasts_86 K0 n) l0 l1 l2 l4 l6 l7 σ2
      else
        chk (ckO σ2 6 l0) <|
        chk (ckV (gR σ2 l0 45)) <|
        chk (ckI σ2 (gR σ2 l0 45) l7) <|
        wlet (wI σ2 (gR σ2 l0 45) l7.toNatClampNeg (3 : Int32)) fun σ3 =>
        if l6 = 0 then
          chk (ckO σ3 6 l0) <|
          chk (ckV (gR σ3 l0 40)) <|
          chk (ckO σ3 6 l0) <|
          chk (ckV (gR σ3 l0 43)) <|
          chk (ckJ σ3 (gR σ3 l0 43) l7) <|
          chk (ckJ σ3 (gR σ3 l0 40) l7) <|
          wlet (wJ σ3 (gR σ3 l0 40) l7.toNatClampNeg (aJ σ3 (gR σ3 l0 43) l7.toNatClampNeg)) fun σ4 =>
          DX8_leasts_154 K0 (DX8_leasts_86 K0 n) l0 l1 l2 l4 l6 l7 σ4
        else
          chk (ckO σ3 6 l0) <|
          chk (ckV (gR σ3 l0 41)) <|
          chk (ckO σ3 6 l0) <|
          chk (ckO σ3 6 l0) <|
          chk (ckV (gR σ3 l0 43)) <|
          chk (ckJ σ3 (gR σ3 l0 43) l7) <|
          chk (ckJ σ3 (gR σ3 l0 41) l7) <|
          wlet (wJ σ3 (gR σ3 l0 41) l7.toNatClampNeg ((gJ σ3 l0 48) * (aJ σ3 (gR σ3 l0 43) l7.toNatClampNeg))) fun σ5 =>
          DX8_leasts_154 K0 (DX8_leasts_86 K0 n) l0 l1 l2 l4 l6 l7 σ5
theorem tX8_leasts_86 {r : Unit} {σ' : Sg} (C : Cx E p s m args meth c RX8 cX8_leasts 8) (hr : meth.sig.returnType = none) {K0 : Nat → Int32 → Sg → Option (Unit × Sg)} (hK0 : ∀ (l0 : Nat) (l1 : Int32) (σ : Sg), K0 l0 l1 σ = some (r, σ') → Y E p l e (rmA 3 0 0) s m args below meth c none σ' 0 0 8 0 0 σ 0 [some (.ref (ad E l0)), some (.int l1), none, none, none, none, none, none] []) : ∀ (n : Nat) (l0 : Nat) (l1 : Int32) (l2 : Int64) (l4 : Int64) (l6 : Int32) (l7 : Int32) (σ : Sg) (h : DX8_leasts_86 K0 n l0 l1 l2 l4 l6 l7 σ = some (r, σ')), Y E p l e (rmA 3 0 0) s m args below meth c none σ' 0 0 8 0 0 σ 86 [some (.ref (ad E l0)), some (.int l1), some (.long l2), none, some (.long l4), none, some (.int l6), some (.int l7)] [] := by
  intro n
  induction n with
  | zero => intro l0 l1 l2 l4 l6 l7 σ h; cases h
  | succ n ih =>
    intro l0 l1 l2 l4 l6 l7 σ h
    unfold DX8_leasts_86 at h
    refine x_iload (pc := 86) C dX8_leasts_86 rfl ?_
    refine x_iload_n (pc := 88) C dX8_leasts_88 rfl rfl ?_
    refine x_icmp_ge (pc := 89) (tgt := 160) C dX8_leasts_89 (by decide) (fun q => ?_) (fun q => ?_)
    · rw [if_pos q] at h
      exact x_sub (tX8_leasts_160 C hr hK0 h) (xLe_s (xLe_s (xLe_n (xLe_n (xLe_s (xLe_n (xLe_s (xLe_n xLe_0))))))))
    · rw [if_neg q] at h
      refine x_aload_n (pc := 92) C dX8_leasts_92 rfl rfl ?_
      refine x_iload (pc := 93) C dX8_leasts_93 rfl ?_
      refine x_lload_n (pc := 95) C dX8_leasts_95 rfl rfl ?_
      obtain ⟨k, h⟩ := chk_s h
      have k2 := k
      obtain ⟨v1, σ2, k, h⟩ := bnd_s h
      refine x_callV1 (pc := 96) C (mX8_isShort E l k) cl6 k2 cX8_373 nX8_isShort sX8_isShort rfl rfl (Nat.le_of_ble_eq_true rfl) ⟨Nat.le_of_ble_eq_true rfl, Nat.le_of_ble_eq_true rfl, Nat.le_of_ble_eq_true rfl, Nat.le_of_ble_eq_true rfl⟩ dX8_leasts_96 ?_
      refine x_if_ne (pc := 99) (tgt := 105) C dX8_leasts_99 (by decide) (fun q => ?_) (fun q => ?_)
      · rw [if_pos q] at h
        refine x_goto (tgt := 154) (pc := 102) C dX8_leasts_102 (by decide) ?_
        exact x_sub (tX8_leasts_154 C hr hK0 ih h) (xLe_s (xLe_s (xLe_s (xLe_n (xLe_s (xLe_n (xLe_s (xLe_s xLe_0))))))))
      · rw [if_neg q] at h
        refine x_aload_n (pc := 105) C dX8_leasts_105 rfl rfl ?_
        obtain ⟨k, h⟩ := chk_s h
        have k2 := k
        obtain ⟨k, h⟩ := chk_s h
        refine x_getR (pc := 106) C fX8_81 rfl k2 k dX8_leasts_106 ?_
        refine x_iload (pc := 109) C dX8_leasts_109 rfl ?_
        refine x_iconst (v := 3) (pc := 111) C dX8_leasts_111 (by decide) ?_
        obtain ⟨k, h⟩ := chk_s h
        obtain ⟨σ3, e1, h⟩ := wlet_s h
        refine x_iast (pc := 112) C k dX8_leasts_112 (x_eq e1 ?_)
        refine x_iload (pc := 113) C dX8_leasts_113 rfl ?_
        refine x_if_eq (pc := 115) (tgt := 140) C dX8_leasts_115 (by decide) (fun q => ?_) (fun q => ?_)
        · rw [if_pos q] at h
          refine x_aload_n (pc := 140) C dX8_leasts_140 rfl rfl ?_
          obtain ⟨k, h⟩ := chk_s h
          have k2 := k
          obtain ⟨k, h⟩ := chk_s h
          refine x_getR (pc := 141) C fX8_65 rfl k2 k dX8_leasts_141 ?_
          refine x_iload (pc := 144) C dX8_leasts_144 rfl ?_
          refine x_aload_n (pc := 146) C dX8_leasts_146 rfl rfl ?_
          obtain ⟨k, h⟩ := chk_s h
          have k2 := k
          obtain ⟨k, h⟩ := chk_s h
          refine x_getR (pc := 147) C fX8_75 rfl k2 k dX8_leasts_147 ?_
          refine x_iload (pc := 150) C dX8_leasts_150 rfl ?_
          obtain ⟨k, h⟩ := chk_s h
          refine x_lald (pc := 152) C k dX8_leasts_152 ?_
          obtain ⟨k, h⟩ := chk_s h
          obtain ⟨σ4, e1, h⟩ := wlet_s h
          refine x_last (pc := 153) C k dX8_leasts_153 (x_eq e1 ?_)
          exact x_sub (tX8_leasts_154 C hr hK0 ih h) (xLe_s (xLe_s (xLe_s (xLe_n (xLe_s (xLe_n (xLe_s (xLe_s xLe_0))))))))
        · rw [if_neg q] at h
          refine x_aload_n (pc := 118) C dX8_leasts_118 rfl rfl ?_
          obtain ⟨k, h⟩ := chk_s h
          have k2 := k
          obtain ⟨k, h⟩ := chk_s h
          refine x_getR (pc := 119) C fX8_69 rfl k2 k dX8_leasts_119 ?_
          refine x_iload (pc := 122) C dX8_leasts_122 rfl ?_
          refine x_aload_n (pc := 124) C dX8_leasts_124 rfl rfl ?_
          obtain ⟨k, h⟩ := chk_s h
          refine x_getJ (pc := 125) C fX8_354 rfl k dX8_leasts_125 ?_
          refine x_aload_n (pc := 128) C dX8_leasts_128 rfl rfl ?_
          obtain ⟨k, h⟩ := chk_s h
          have k2 := k
          obtain ⟨k, h⟩ := chk_s h
          refine x_getR (pc := 129) C fX8_75 rfl k2 k dX8_leasts_129 ?_
          refine x_iload (pc := 132) C dX8_leasts_132 rfl ?_
          obtain ⟨k, h⟩ := chk_s h
          refine x_lald (pc := 134) C k dX8_leasts_134 ?_
          refine x_lmul (pc := 135) C dX8_leasts_135 ?_
          obtain ⟨k, h⟩ := chk_s h
          obtain ⟨σ5, e1, h⟩ := wlet_s h
          refine x_last (pc := 136) C k dX8_leasts_136 (x_eq e1 ?_)
          refine x_goto (tgt := 154) (pc := 137) C dX8_leasts_137 (by decide) ?_
          exact x_sub (tX8_leasts_154 C hr hK0 ih h) (xLe_s (xLe_s (xLe_s (xLe_n (xLe_s (xLe_n (xLe_s (xLe_s xLe_0))))))))
def DX8_leasts_81 (K0 : Nat → Int32 → Sg → Option (Unit × Sg)) (l0 : Nat) (l1 : Int32) (l2 : Int64) (l4 : Int64) (s0 : Int32) (σ : Sg) : Option (Unit × Sg) :=
  DX8_leasts_86 K0 FU l0 l1 l2 l4 s0 (0 : Int32) σ
theorem tX8_leasts_81 {r : Unit} {σ' : Sg} (C : Cx E p s m args meth c RX8 cX8_leasts 8) (hr : meth.sig.returnType = none) {K0 : Nat → Int32 → Sg → Option (Unit × Sg)} (hK0 : ∀ (l0 : Nat) (l1 : Int32) (σ : Sg), K0 l0 l1 σ = some (r, σ') → Y E p l e (rmA 3 0 0) s m args below meth c none σ' 0 0 8 0 0 σ 0 [some (.ref (ad E l0)), some (.int l1), none, none, none, none, none, none] []) {l0 : Nat} {l1 : Int32} {l2 : Int64} {l4 : Int64} {s0 : Int32} {σ : Sg} (h : DX8_leasts_81 K0 l0 l1 l2 l4 s0 σ = some (r, σ')) : Y E p l e (rmA 3 0 0) s m args below meth c none σ' 0 0 8 0 0 σ 81 [some (.ref (ad E l0)), some (.int l1), some (.long l2), none, some (.long l4), none, none, none] [.int s0] := by
  unfold DX8_leasts_81 at h
  refine x_istore (M := [some _, some _, some _, none, some _, none, some _, none]) (pc := 81) C dX8_leasts_81 (by decide) rfl ?_
  refine x_iconst (v := 0) (pc := 83) C dX8_leasts_83 (by decide) ?_
  refine x_istore (M := [some _, some _, some _, none, some _, none, some _, some _]) (pc := 84) C dX8_leasts_84 (by decide) rfl ?_
  exact x_sub (tX8_leasts_86 C hr hK0 FU _ _ _ _ _ _ _ h) (xLe_s (xLe_s (xLe_s (xLe_n (xLe_s (xLe_n (xLe_s (xLe_s xLe_0))))))))
def DX8_leasts_46 (K0 : Nat → Int32 → Sg → Option (Unit × Sg)) (l0 : Nat) (l1 : Int32) (l2 : Int64) (l4 : Int64) (σ : Sg) : Option (Unit × Sg) :=
  if l4 = (0 : Int64) then
    DX8_leasts_53 l0 l1 σ
  else
    chk (ckO σ 6 l0) <|
    chk (ckO σ 6 l0) <|
    wlet (pI σ l0 49 ((gI σ l0 49) + (1 : Int32))) fun σ1 =>
    chk (ckO σ1 6 l0) <|
    if l4 ≤ (gJ σ1 l0 48) then
      DX8_leasts_81 K0 l0 l1 l2 l4 (0 : Int32) σ1
    else
      DX8_leasts_81 K0 l0 l1 l2 l4 (1 : Int32) σ1
theorem tX8_leasts_46 {r : Unit} {σ' : Sg} (C : Cx E p s m args meth c RX8 cX8_leasts 8) (hr : meth.sig.returnType = none) {K0 : Nat → Int32 → Sg → Option (Unit × Sg)} (hK0 : ∀ (l0 : Nat) (l1 : Int32) (σ : Sg), K0 l0 l1 σ = some (r, σ') → Y E p l e (rmA 3 0 0) s m args below meth c none σ' 0 0 8 0 0 σ 0 [some (.ref (ad E l0)), some (.int l1), none, none, none, none, none, none] []) {l0 : Nat} {l1 : Int32} {l2 : Int64} {l4 : Int64} {σ : Sg} (h : DX8_leasts_46 K0 l0 l1 l2 l4 σ = some (r, σ')) : Y E p l e (rmA 3 0 0) s m args below meth c none σ' 0 0 8 0 0 σ 46 [some (.ref (ad E l0)), some (.int l1), some (.long l2), none, some (.long l4), none, none, none] [] := by
  unfold DX8_leasts_46 at h
  refine x_lload (pc := 46) C dX8_leasts_46 rfl ?_
  refine x_lconst (v := 0) (pc := 48) C dX8_leasts_48 (by decide) ?_
  refine x_lcmp (pc := 49) C dX8_leasts_49 ?_
  refine x_lif_ne (pc := 50) (tgt := 56) C dX8_leasts_50 (by decide) (fun q => ?_) (fun q => ?_)
  · rw [if_pos q] at h
    exact x_sub (tX8_leasts_53 C hr h) (xLe_s (xLe_s (xLe_n (xLe_n (xLe_n (xLe_n (xLe_n (xLe_n xLe_0))))))))
  · rw [if_neg q] at h
    refine x_aload_n (pc := 56) C dX8_leasts_56 rfl rfl ?_
    refine x_dup (pc := 57) C dX8_leasts_57 rfl ?_
    obtain ⟨k, h⟩ := chk_s h
    refine x_getI (pc := 58) C fX8_332 rfl k dX8_leasts_58 ?_
    refine x_iconst (v := 1) (pc := 61) C dX8_leasts_61 (by decide) ?_
    refine x_iadd (pc := 62) C dX8_leasts_62 ?_
    obtain ⟨k, h⟩ := chk_s h
    obtain ⟨σ1, e1, h⟩ := wlet_s h
    refine x_putI (pc := 63) C pX8_332 rfl k dX8_leasts_63 (x_eq e1 ?_)
    refine x_lload (pc := 66) C dX8_leasts_66 rfl ?_
    refine x_aload_n (pc := 68) C dX8_leasts_68 rfl rfl ?_
    obtain ⟨k, h⟩ := chk_s h
    refine x_getJ (pc := 69) C fX8_354 rfl k dX8_leasts_69 ?_
    refine x_lcmp (pc := 72) C dX8_leasts_72 ?_
    refine x_lif_le (pc := 73) (tgt := 80) C dX8_leasts_73 (by decide) (fun q => ?_) (fun q => ?_)
    · rw [if_pos q] at h
      refine x_iconst (v := 0) (pc := 80) C dX8_leasts_80 (by decide) ?_
      exact x_sub (tX8_leasts_81 C hr hK0 h) (xLe_s (xLe_s (xLe_s (xLe_n (xLe_s (xLe_n (xLe_n (xLe_n xLe_0))))))))
    · rw [if_neg q] at h
      refine x_iconst (v := 1) (pc := 76) C dX8_leasts_76 (by decide) ?_
      refine x_goto (tgt := 81) (pc := 77) C dX8_leasts_77 (by decide) ?_
      exact x_sub (tX8_leasts_81 C hr hK0 h) (xLe_s (xLe_s (xLe_s (xLe_n (xLe_s (xLe_n (xLe_n (xLe_n xLe_0))))))))
def DX8_leasts_12 (K0 : Nat → Int32 → Sg → Option (Unit × Sg)) : Nat → Nat → Int32 → Int64 → Int64 → Int32 → Sg → Option (Unit × Sg)
  | 0, _, _, _, _, _, _ => none
  | n + 1, l0, l1, l2, l4, l6, σ =>
    if l1 ≤ l6 then
      DX8_leasts_46 K0 l0 l1 l2 l4 σ
    else
      chk (ckO σ 6 l0) <|
      bnd (DX8_isShort l0 l6 l2 σ) fun v1 σ2 =>
      if v1 = 0 then
        DX8_leasts_40 K0 (DX8_leasts_12 K0 n) l0 l1 l2 l4 l6 σ2
      else
        chk (ckO σ2 6 l0) <|
        chk (ckV (gR σ2 l0 43)) <|
        chk (ckJ σ2 (gR σ2 l0 43) l6) <|
        DX8_leasts_40 K0 (DX8_leasts_12 K0 n) l0 l1 l2 (l4 + (aJ σ2 (gR σ2 l0 43) l6.toNatClampNeg)) l6 σ2
theorem tX8_leasts_12 {r : Unit} {σ' : Sg} (C : Cx E p s m args meth c RX8 cX8_leasts 8) (hr : meth.sig.returnType = none) {K0 : Nat → Int32 → Sg → Option (Unit × Sg)} (hK0 : ∀ (l0 : Nat) (l1 : Int32) (σ : Sg), K0 l0 l1 σ = some (r, σ') → Y E p l e (rmA 3 0 0) s m args below meth c none σ' 0 0 8 0 0 σ 0 [some (.ref (ad E l0)), some (.int l1), none, none, none, none, none, none] []) : ∀ (n : Nat) (l0 : Nat) (l1 : Int32) (l2 : Int64) (l4 : Int64) (l6 : Int32) (σ : Sg) (h : DX8_leasts_12 K0 n l0 l1 l2 l4 l6 σ = some (r, σ')), Y E p l e (rmA 3 0 0) s m args below meth c none σ' 0 0 8 0 0 σ 12 [some (.ref (ad E l0)), some (.int l1), some (.long l2), none, some (.long l4), none, some (.int l6), none] [] := by
  intro n
  induction n with
  | zero => intro l0 l1 l2 l4 l6 σ h; cases h
  | succ n ih =>
    intro l0 l1 l2 l4 l6 σ h
    unfold DX8_leasts_12 at h
    refine x_iload (pc := 12) C dX8_leasts_12 rfl ?_
    refine x_iload_n (pc := 14) C dX8_leasts_14 rfl rfl ?_
    refine x_icmp_ge (pc := 15) (tgt := 46) C dX8_leasts_15 (by decide) (fun q => ?_) (fun q => ?_)
    · rw [if_pos q] at h
      exact x_sub (tX8_leasts_46 C hr hK0 h) (xLe_s (xLe_s (xLe_s (xLe_n (xLe_s (xLe_n (xLe_n (xLe_n xLe_0))))))))
    · rw [if_neg q] at h
      refine x_aload_n (pc := 18) C dX8_leasts_18 rfl rfl ?_
      refine x_iload (pc := 19) C dX8_leasts_19 rfl ?_
      refine x_lload_n (pc := 21) C dX8_leasts_21 rfl rfl ?_
      obtain ⟨k, h⟩ := chk_s h
      have k2 := k
      obtain ⟨v1, σ2, k, h⟩ := bnd_s h
      refine x_callV1 (pc := 22) C (mX8_isShort E l k) cl6 k2 cX8_373 nX8_isShort sX8_isShort rfl rfl (Nat.le_of_ble_eq_true rfl) ⟨Nat.le_of_ble_eq_true rfl, Nat.le_of_ble_eq_true rfl, Nat.le_of_ble_eq_true rfl, Nat.le_of_ble_eq_true rfl⟩ dX8_leasts_22 ?_
      refine x_if_eq (pc := 25) (tgt := 40) C dX8_leasts_25 (by decide) (fun q => ?_) (fun q => ?_)
      · rw [if_pos q] at h
        exact x_sub (tX8_leasts_40 C hr hK0 ih h) (xLe_s (xLe_s (xLe_s (xLe_n (xLe_s (xLe_n (xLe_s (xLe_n xLe_0))))))))
      · rw [if_neg q] at h
        refine x_lload (pc := 28) C dX8_leasts_28 rfl ?_
        refine x_aload_n (pc := 30) C dX8_leasts_30 rfl rfl ?_
        obtain ⟨k, h⟩ := chk_s h
        have k2 := k
        obtain ⟨k, h⟩ := chk_s h
        refine x_getR (pc := 31) C fX8_75 rfl k2 k dX8_leasts_31 ?_
        refine x_iload (pc := 34) C dX8_leasts_34 rfl ?_
        obtain ⟨k, h⟩ := chk_s h
        refine x_lald (pc := 36) C k dX8_leasts_36 ?_
        refine x_ladd (pc := 37) C dX8_leasts_37 ?_
        refine x_lstore (M := [some _, some _, some _, none, some _, none, some _, none]) (pc := 38) C dX8_leasts_38 (by decide) rfl ?_
        exact x_sub (tX8_leasts_40 C hr hK0 ih h) (xLe_s (xLe_s (xLe_s (xLe_n (xLe_s (xLe_n (xLe_s (xLe_n xLe_0))))))))
def DX8_leasts_0 : Nat → Nat → Int32 → Sg → Option (Unit × Sg)
  | 0, _, _, _ => none
  | n + 1, l0, l1, σ =>
    chk (ckO σ 6 l0) <|
    bnd (DX8_freeFactors l0 l1 σ) fun v1 σ2 =>
    DX8_leasts_12 (DX8_leasts_0 n) FU l0 l1 v1 (0 : Int64) (0 : Int32) σ2
theorem tX8_leasts_0 {r : Unit} {σ' : Sg} (C : Cx E p s m args meth c RX8 cX8_leasts 8) (hr : meth.sig.returnType = none) : ∀ (n : Nat) (l0 : Nat) (l1 : Int32) (σ : Sg) (h : DX8_leasts_0 n l0 l1 σ = some (r, σ')), Y E p l e (rmA 3 0 0) s m args below meth c none σ' 0 0 8 0 0 σ 0 [some (.ref (ad E l0)), some (.int l1), none, none, none, none, none, none] [] := by
  intro n
  induction n with
  | zero => intro l0 l1 σ h; cases h
  | succ n ih =>
    intro l0 l1 σ h
    unfold DX8_leasts_0 at h
    refine x_aload_n (pc := 0) C dX8_leasts_0 rfl rfl ?_
    refine x_iload_n (pc := 1) C dX8_leasts_1 rfl rfl ?_
    obtain ⟨k, h⟩ := chk_s h
    have k2 := k
    obtain ⟨v1, σ2, k, h⟩ := bnd_s h
    refine x_callV1 (pc := 2) C (mX8_freeFactors E l k) cl6 k2 cX8_370 nX8_freeFactors sX8_freeFactors rfl rfl (Nat.le_of_ble_eq_true rfl) ⟨Nat.le_of_ble_eq_true rfl, Nat.le_of_ble_eq_true rfl, Nat.le_of_ble_eq_true rfl, Nat.le_of_ble_eq_true rfl⟩ dX8_leasts_2 ?_
    refine x_lstore_n (M := [some _, some _, some _, none, none, none, none, none]) (pc := 5) C dX8_leasts_5 rfl (by decide) rfl ?_
    refine x_lconst (v := 0) (pc := 6) C dX8_leasts_6 (by decide) ?_
    refine x_lstore (M := [some _, some _, some _, none, some _, none, none, none]) (pc := 7) C dX8_leasts_7 (by decide) rfl ?_
    refine x_iconst (v := 0) (pc := 9) C dX8_leasts_9 (by decide) ?_
    refine x_istore (M := [some _, some _, some _, none, some _, none, some _, none]) (pc := 10) C dX8_leasts_10 (by decide) rfl ?_
    exact x_sub (tX8_leasts_12 C hr ih FU _ _ _ _ _ _ h) (xLe_s (xLe_s (xLe_s (xLe_n (xLe_s (xLe_n (xLe_s (xLe_n xLe_0))))))))
def DX8_leasts (l0 : Nat) (l1 : Int32) (σ : Sg) : Option (Unit × Sg) :=
  DX8_leasts_0 FU l0 l1 σ
theorem mX8_leasts (E : Ev) (l : Launch) {l0 : Nat} {l1 : Int32} {σ : Sg} {r : Unit} {σ' : Sg} (h : DX8_leasts l0 l1 σ = some (r, σ')) : Mt E l yX8_leasts cX8_leasts 8 none 3 0 0 [.ref (ad E l0), .int l1] σ none σ' := by
  refine Mt.ofX (by decide) (Nat.le_of_ble_eq_true rfl) (L0 := [some (.ref (ad E l0)), some (.int l1), none, none, none, none, none, none]) (xEntN_ok [.ref (ad E l0), .int l1] 8) (fun p e s m args below meth c C hr hn => ?_)
  unfold DX8_leasts at h
  exact x_sub (tX8_leasts_0 C hr FU _ _ _ h) (xLe_s (xLe_s (xLe_n (xLe_n (xLe_n (xLe_n (xLe_n (xLe_n xLe_0))))))))
def DX8_goesFirst_76 (K11 : Nat → Int32 → Int64 → Int32 → Int32 → Int32 → Sg → Option (Unit × Sg)) (l0 : Nat) (l1 : Int32) (l2 : Int64) (l4 : Int32) (l5 : Int32) (l6 : Int32) (σ : Sg) : Option (Unit × Sg) :=
  K11 l0 l1 l2 l4 l5 (l6 + (1 : Int32)) σ
theorem tX8_goesFirst_76 {r : Unit} {σ' : Sg} (C : Cx E p s m args meth c RX8 cX8_goesFirst 9) (hr : meth.sig.returnType = none) {K11 : Nat → Int32 → Int64 → Int32 → Int32 → Int32 → Sg → Option (Unit × Sg)} (hK11 : ∀ (l0 : Nat) (l1 : Int32) (l2 : Int64) (l4 : Int32) (l5 : Int32) (l6 : Int32) (σ : Sg), K11 l0 l1 l2 l4 l5 l6 σ = some (r, σ') → Y E p l e (rmA 4 0 0) s m args below meth c none σ' 0 0 9 0 0 σ 11 [some (.ref (ad E l0)), some (.int l1), some (.long l2), none, some (.int l4), some (.int l5), some (.int l6), none, none] []) {l0 : Nat} {l1 : Int32} {l2 : Int64} {l4 : Int32} {l5 : Int32} {l6 : Int32} {σ : Sg} (h : DX8_goesFirst_76 K11 l0 l1 l2 l4 l5 l6 σ = some (r, σ')) : Y E p l e (rmA 4 0 0) s m args below meth c none σ' 0 0 9 0 0 σ 76 [some (.ref (ad E l0)), some (.int l1), some (.long l2), none, some (.int l4), some (.int l5), some (.int l6), none, none] [] := by
  unfold DX8_goesFirst_76 at h
  refine x_iinc (v := 1) (M := [some _, some _, some _, none, some _, some _, some _, none, none]) (pc := 76) C dX8_goesFirst_76 rfl (by decide) (by decide) rfl ?_
  refine x_goto (tgt := 11) (pc := 79) C dX8_goesFirst_79 (by decide) ?_
  exact x_sub (hK11 _ _ _ _ _ _ _ h) (xLe_s (xLe_s (xLe_s (xLe_n (xLe_s (xLe_s (xLe_s (xLe_n (xLe_n xLe_0)))))))))
def DX8_goesFirst_150 (K99 : Nat → Int32 → Int64 → Int32 → Sg → Option (Unit × Sg)) (l0 : Nat) (l1 : Int32) (l2 : Int64) (l6 : Int32) (s0 : Nat) (s1 : Int32) (s2 : Int64) (σ : Sg) : Option (Unit × Sg) :=
  chk (ckJ σ s0 s1) <|
  wlet (wJ σ s0 s1.toNatClampNeg s2) fun σ1 =>
  K99 l0 l1 l2 (l6 + (1 : Int32)) σ1
theorem tX8_goesFirst_150 {r : Unit} {σ' : Sg} (C : Cx E p s m args meth c RX8 cX8_goesFirst 9) (hr : meth.sig.returnType = none) {K99 : Nat → Int32 → Int64 → Int32 → Sg → Option (Unit × Sg)} (hK99 : ∀ (l0 : Nat) (l1 : Int32) (l2 : Int64) (l6 : Int32) (σ : Sg), K99 l0 l1 l2 l6 σ = some (r, σ') → Y E p l e (rmA 4 0 0) s m args below meth c none σ' 0 0 9 0 0 σ 99 [some (.ref (ad E l0)), some (.int l1), some (.long l2), none, none, none, some (.int l6), none, none] []) {l0 : Nat} {l1 : Int32} {l2 : Int64} {l6 : Int32} {s0 : Nat} {s1 : Int32} {s2 : Int64} {σ : Sg} (h : DX8_goesFirst_150 K99 l0 l1 l2 l6 s0 s1 s2 σ = some (r, σ')) : Y E p l e (rmA 4 0 0) s m args below meth c none σ' 0 0 9 0 0 σ 150 [some (.ref (ad E l0)), some (.int l1), some (.long l2), none, none, none, some (.int l6), none, none] [.long s2, .int s1, .ref (ad E s0)] := by
  unfold DX8_goesFirst_150 at h
  obtain ⟨k, h⟩ := chk_s h
  obtain ⟨σ1, e1, h⟩ := wlet_s h
  refine x_last (pc := 150) C k dX8_goesFirst_150 (x_eq e1 ?_)
  refine x_iinc (v := 1) (M := [some _, some _, some _, none, none, none, some _, none, none]) (pc := 151) C dX8_goesFirst_151 rfl (by decide) (by decide) rfl ?_
  refine x_goto (tgt := 99) (pc := 154) C dX8_goesFirst_154 (by decide) ?_
  exact x_sub (hK99 _ _ _ _ _ h) (xLe_s (xLe_s (xLe_s (xLe_n (xLe_n (xLe_n (xLe_s (xLe_n (xLe_n xLe_0)))))))))
def DX8_goesFirst_149 (K99 : Nat → Int32 → Int64 → Int32 → Sg → Option (Unit × Sg)) (l0 : Nat) (l1 : Int32) (l2 : Int64) (l6 : Int32) (s0 : Nat) (s1 : Int32) (σ : Sg) : Option (Unit × Sg) :=
  DX8_goesFirst_150 K99 l0 l1 l2 l6 s0 s1 (0 : Int64) σ
theorem tX8_goesFirst_149 {r : Unit} {σ' : Sg} (C : Cx E p s m args meth c RX8 cX8_goesFirst 9) (hr : meth.sig.returnType = none) {K99 : Nat → Int32 → Int64 → Int32 → Sg → Option (Unit × Sg)} (hK99 : ∀ (l0 : Nat) (l1 : Int32) (l2 : Int64) (l6 : Int32) (σ : Sg), K99 l0 l1 l2 l6 σ = some (r, σ') → Y E p l e (rmA 4 0 0) s m args below meth c none σ' 0 0 9 0 0 σ 99 [some (.ref (ad E l0)), some (.int l1), some (.long l2), none, none, none, some (.int l6), none, none] []) {l0 : Nat} {l1 : Int32} {l2 : Int64} {l6 : Int32} {s0 : Nat} {s1 : Int32} {σ : Sg} (h : DX8_goesFirst_149 K99 l0 l1 l2 l6 s0 s1 σ = some (r, σ')) : Y E p l e (rmA 4 0 0) s m args below meth c none σ' 0 0 9 0 0 σ 149 [some (.ref (ad E l0)), some (.int l1), some (.long l2), none, none, none, some (.int l6), none, none] [.int s1, .ref (ad E s0)] := by
  unfold DX8_goesFirst_149 at h
  refine x_lconst (v := 0) (pc := 149) C dX8_goesFirst_149 (by decide) ?_
  exact x_sub (tX8_goesFirst_150 C hr hK99 h) (xLe_s (xLe_s (xLe_s (xLe_n (xLe_n (xLe_n (xLe_s (xLe_n (xLe_n xLe_0)))))))))
def DX8_goesFirst_157 (l0 : Nat) (l2 : Int64) (σ : Sg) : Option (Unit × Sg) :=
  chk (ckO σ 6 l0) <|
  wlet (pJ σ l0 47 l2) fun σ1 =>
  some ((), σ1)
theorem tX8_goesFirst_157 {r : Unit} {σ' : Sg} (C : Cx E p s m args meth c RX8 cX8_goesFirst 9) (hr : meth.sig.returnType = none) {l0 : Nat} {l2 : Int64} {σ : Sg} (h : DX8_goesFirst_157 l0 l2 σ = some (r, σ')) : Y E p l e (rmA 4 0 0) s m args below meth c none σ' 0 0 9 0 0 σ 157 [some (.ref (ad E l0)), none, some (.long l2), none, none, none, none, none, none] [] := by
  unfold DX8_goesFirst_157 at h
  refine x_aload_n (pc := 157) C dX8_goesFirst_157 rfl rfl ?_
  refine x_lload_n (pc := 158) C dX8_goesFirst_158 rfl rfl ?_
  obtain ⟨k, h⟩ := chk_s h
  obtain ⟨σ1, e1, h⟩ := wlet_s h
  refine x_putJ (pc := 159) C pX8_338 rfl k dX8_goesFirst_159 (x_eq e1 ?_)
  cases h
  exact x_vret C hr dX8_goesFirst_162
def DX8_goesFirst_99 : Nat → Nat → Int32 → Int64 → Int32 → Sg → Option (Unit × Sg)
  | 0, _, _, _, _, _ => none
  | n + 1, l0, l1, l2, l6, σ =>
    if l1 ≤ l6 then
      DX8_goesFirst_157 l0 l2 σ
    else
      chk (ckO σ 6 l0) <|
      chk (ckV (gR σ l0 41)) <|
      chk (ckO σ 6 l0) <|
      chk (ckV (gR σ l0 46)) <|
      chk (ckZ σ (gR σ l0 46) l6) <|
      if (aI σ (gR σ l0 46) l6.toNatClampNeg) = 0 then
        DX8_goesFirst_149 (DX8_goesFirst_99 n) l0 l1 l2 l6 (gR σ l0 41) l6 σ
      else
        chk (ckO σ 6 l0) <|
        chk (ckV (gR σ l0 44)) <|
        chk (ckI σ (gR σ l0 44) l6) <|
        bnd (DX8_isFirst (aI σ (gR σ l0 44) l6.toNatClampNeg) σ) fun v1 σ2 =>
        if v1 = 0 then
          DX8_goesFirst_149 (DX8_goesFirst_99 n) l0 l1 l2 l6 (gR σ l0 41) l6 σ2
        else
          chk (ckO σ2 6 l0) <|
          chk (ckO σ2 6 l0) <|
          chk (ckV (gR σ2 l0 43)) <|
          chk (ckJ σ2 (gR σ2 l0 43) l6) <|
          DX8_goesFirst_150 (DX8_goesFirst_99 n) l0 l1 l2 l6 (gR σ l0 41) l6 ((gJ σ2 l0 48) * (aJ σ2 (gR σ2 l0 43) l6.toNatClampNeg)) σ2
theorem tX8_goesFirst_99 {r : Unit} {σ' : Sg} (C : Cx E p s m args meth c RX8 cX8_goesFirst 9) (hr : meth.sig.returnType = none) : ∀ (n : Nat) (l0 : Nat) (l1 : Int32) (l2 : Int64) (l6 : Int32) (σ : Sg) (h : DX8_goesFirst_99 n l0 l1 l2 l6 σ = some (r, σ')), Y E p l e (rmA 4 0 0) s m args below meth c none σ' 0 0 9 0 0 σ 99 [some (.ref (ad E l0)), some (.int l1), some (.long l2), none, none, none, some (.int l6), none, none] [] := by
  intro n
  induction n with
  | zero => intro l0 l1 l2 l6 σ h; cases h
  | succ n ih =>
    intro l0 l1 l2 l6 σ h
    unfold DX8_goesFirst_99 at h
    refine x_iload (pc := 99) C dX8_goesFirst_99 rfl ?_
    refine x_iload_n (pc := 101) C dX8_goesFirst_101 rfl rfl ?_
    refine x_icmp_ge (pc := 102) (tgt := 157) C dX8_goesFirst_102 (by decide) (fun q => ?_) (fun q => ?_)
    · rw [if_pos q] at h
      exact x_sub (tX8_goesFirst_157 C hr h) (xLe_s (xLe_n (xLe_s (xLe_n (xLe_n (xLe_n (xLe_n (xLe_n (xLe_n xLe_0)))))))))
    · rw [if_neg q] at h
      refine x_aload_n (pc := 105) C dX8_goesFirst_105 rfl rfl ?_
      obtain ⟨k, h⟩ := chk_s h
      have k2 := k
      obtain ⟨k, h⟩ := chk_s h
      refine x_getR (pc := 106) C fX8_69 rfl k2 k dX8_goesFirst_106 ?_
      refine x_iload (pc := 109) C dX8_goesFirst_109 rfl ?_
      refine x_aload_n (pc := 111) C dX8_goesFirst_111 rfl rfl ?_
      obtain ⟨k, h⟩ := chk_s h
      have k2 := k
      obtain ⟨k, h⟩ := chk_s h
      refine x_getR (pc := 112) C fX8_84 rfl k2 k dX8_goesFirst_112 ?_
      refine x_iload (pc := 115) C dX8_goesFirst_115 rfl ?_
      obtain ⟨k, h⟩ := chk_s h
      refine x_zald (pc := 117) C k dX8_goesFirst_117 ?_
      refine x_if_eq (pc := 118) (tgt := 149) C dX8_goesFirst_118 (by decide) (fun q => ?_) (fun q => ?_)
      · rw [if_pos q] at h
        exact x_sub (tX8_goesFirst_149 C hr ih h) (xLe_s (xLe_s (xLe_s (xLe_n (xLe_n (xLe_n (xLe_s (xLe_n (xLe_n xLe_0)))))))))
      · rw [if_neg q] at h
        refine x_aload_n (pc := 121) C dX8_goesFirst_121 rfl rfl ?_
        obtain ⟨k, h⟩ := chk_s h
        have k2 := k
        obtain ⟨k, h⟩ := chk_s h
        refine x_getR (pc := 122) C fX8_78 rfl k2 k dX8_goesFirst_122 ?_
        refine x_iload (pc := 125) C dX8_goesFirst_125 rfl ?_
        obtain ⟨k, h⟩ := chk_s h
        refine x_iald (pc := 127) C k dX8_goesFirst_127 ?_
        obtain ⟨v1, σ2, k, h⟩ := bnd_s h
        refine x_callS1 (pc := 128) C (mX8_isFirst E l k) cX8_364 zX8_isFirst rfl rfl (Nat.le_of_ble_eq_true rfl) ⟨Nat.le_of_ble_eq_true rfl, Nat.le_of_ble_eq_true rfl, Nat.le_of_ble_eq_true rfl, Nat.le_of_ble_eq_true rfl⟩ dX8_goesFirst_128 ?_
        refine x_if_eq (pc := 131) (tgt := 149) C dX8_goesFirst_131 (by decide) (fun q => ?_) (fun q => ?_)
        · rw [if_pos q] at h
          exact x_sub (tX8_goesFirst_149 C hr ih h) (xLe_s (xLe_s (xLe_s (xLe_n (xLe_n (xLe_n (xLe_s (xLe_n (xLe_n xLe_0)))))))))
        · rw [if_neg q] at h
          refine x_aload_n (pc := 134) C dX8_goesFirst_134 rfl rfl ?_
          obtain ⟨k, h⟩ := chk_s h
          refine x_getJ (pc := 135) C fX8_354 rfl k dX8_goesFirst_135 ?_
          refine x_aload_n (pc := 138) C dX8_goesFirst_138 rfl rfl ?_
          obtain ⟨k, h⟩ := chk_s h
          have k2 := k
          obtain ⟨k, h⟩ := chk_s h
          refine x_getR (pc := 139) C fX8_75 rfl k2 k dX8_goesFirst_139 ?_
          refine x_iload (pc := 142) C dX8_goesFirst_142 rfl ?_
          obtain ⟨k, h⟩ := chk_s h
          refine x_lald (pc := 144) C k dX8_goesFirst_144 ?_
          refine x_lmul (pc := 145) C dX8_goesFirst_145 ?_
          refine x_goto (tgt := 150) (pc := 146) C dX8_goesFirst_146 (by decide) ?_
          exact x_sub (tX8_goesFirst_150 C hr ih h) (xLe_s (xLe_s (xLe_s (xLe_n (xLe_n (xLe_n (xLe_s (xLe_n (xLe_n xLe_0)))))))))
def DX8_goesFirst_245 (K179 : Nat → Int32 → Int32 → Int32 → Int64 → Int32 → Sg → Option (Unit × Sg)) (l0 : Nat) (l1 : Int32) (l4 : Int32) (l5 : Int32) (l6 : Int64) (l8 : Int32) (σ : Sg) : Option (Unit × Sg) :=
  K179 l0 l1 l4 l5 l6 (l8 + (1 : Int32)) σ
theorem tX8_goesFirst_245 {r : Unit} {σ' : Sg} (C : Cx E p s m args meth c RX8 cX8_goesFirst 9) (hr : meth.sig.returnType = none) {K179 : Nat → Int32 → Int32 → Int32 → Int64 → Int32 → Sg → Option (Unit × Sg)} (hK179 : ∀ (l0 : Nat) (l1 : Int32) (l4 : Int32) (l5 : Int32) (l6 : Int64) (l8 : Int32) (σ : Sg), K179 l0 l1 l4 l5 l6 l8 σ = some (r, σ') → Y E p l e (rmA 4 0 0) s m args below meth c none σ' 0 0 9 0 0 σ 179 [some (.ref (ad E l0)), some (.int l1), none, none, some (.int l4), some (.int l5), some (.long l6), none, some (.int l8)] []) {l0 : Nat} {l1 : Int32} {l4 : Int32} {l5 : Int32} {l6 : Int64} {l8 : Int32} {σ : Sg} (h : DX8_goesFirst_245 K179 l0 l1 l4 l5 l6 l8 σ = some (r, σ')) : Y E p l e (rmA 4 0 0) s m args below meth c none σ' 0 0 9 0 0 σ 245 [some (.ref (ad E l0)), some (.int l1), none, none, some (.int l4), some (.int l5), some (.long l6), none, some (.int l8)] [] := by
  unfold DX8_goesFirst_245 at h
  refine x_iinc (v := 1) (M := [some _, some _, none, none, some _, some _, some _, none, some _]) (pc := 245) C dX8_goesFirst_245 rfl (by decide) (by decide) rfl ?_
  refine x_goto (tgt := 179) (pc := 248) C dX8_goesFirst_248 (by decide) ?_
  exact x_sub (hK179 _ _ _ _ _ _ _ h) (xLe_s (xLe_s (xLe_n (xLe_n (xLe_s (xLe_s (xLe_s (xLe_n (xLe_s xLe_0)))))))))
def DX8_goesFirst_327 (K277 : Nat → Int32 → Int32 → Sg → Option (Unit × Sg)) (l0 : Nat) (l1 : Int32) (l8 : Int32) (s0 : Nat) (s1 : Int32) (s2 : Int64) (σ : Sg) : Option (Unit × Sg) :=
  chk (ckJ σ s0 s1) <|
  wlet (wJ σ s0 s1.toNatClampNeg s2) fun σ1 =>
  K277 l0 l1 (l8 + (1 : Int32)) σ1
theorem tX8_goesFirst_327 {r : Unit} {σ' : Sg} (C : Cx E p s m args meth c RX8 cX8_goesFirst 9) (hr : meth.sig.returnType = none) {K277 : Nat → Int32 → Int32 → Sg → Option (Unit × Sg)} (hK277 : ∀ (l0 : Nat) (l1 : Int32) (l8 : Int32) (σ : Sg), K277 l0 l1 l8 σ = some (r, σ') → Y E p l e (rmA 4 0 0) s m args below meth c none σ' 0 0 9 0 0 σ 277 [some (.ref (ad E l0)), some (.int l1), none, none, none, none, none, none, some (.int l8)] []) {l0 : Nat} {l1 : Int32} {l8 : Int32} {s0 : Nat} {s1 : Int32} {s2 : Int64} {σ : Sg} (h : DX8_goesFirst_327 K277 l0 l1 l8 s0 s1 s2 σ = some (r, σ')) : Y E p l e (rmA 4 0 0) s m args below meth c none σ' 0 0 9 0 0 σ 327 [some (.ref (ad E l0)), some (.int l1), none, none, none, none, none, none, some (.int l8)] [.long s2, .int s1, .ref (ad E s0)] := by
  unfold DX8_goesFirst_327 at h
  obtain ⟨k, h⟩ := chk_s h
  obtain ⟨σ1, e1, h⟩ := wlet_s h
  refine x_last (pc := 327) C k dX8_goesFirst_327 (x_eq e1 ?_)
  refine x_iinc (v := 1) (M := [some _, some _, none, none, none, none, none, none, some _]) (pc := 328) C dX8_goesFirst_328 rfl (by decide) (by decide) rfl ?_
  refine x_goto (tgt := 277) (pc := 331) C dX8_goesFirst_331 (by decide) ?_
  exact x_sub (hK277 _ _ _ _ h) (xLe_s (xLe_s (xLe_n (xLe_n (xLe_n (xLe_n (xLe_n (xLe_n (xLe_s xLe_0)))))))))
def DX8_goesFirst_311 (K277 : Nat → Int32 → Int32 → Sg → Option (Unit × Sg)) (l0 : Nat) (l1 : Int32) (l8 : Int32) (s0 : Nat) (s1 : Int32) (σ : Sg) : Option (Unit × Sg) :=
  chk (ckO σ 6 l0) <|
  chk (ckO σ 6 l0) <|
  chk (ckV (gR σ l0 42)) <|
  chk (ckJ σ (gR σ l0 42) l8) <|
  DX8_goesFirst_327 K277 l0 l1 l8 s0 s1 ((gJ σ l0 48) * (aJ σ (gR σ l0 42) l8.toNatClampNeg)) σ
theorem tX8_goesFirst_311 {r : Unit} {σ' : Sg} (C : Cx E p s m args meth c RX8 cX8_goesFirst 9) (hr : meth.sig.returnType = none) {K277 : Nat → Int32 → Int32 → Sg → Option (Unit × Sg)} (hK277 : ∀ (l0 : Nat) (l1 : Int32) (l8 : Int32) (σ : Sg), K277 l0 l1 l8 σ = some (r, σ') → Y E p l e (rmA 4 0 0) s m args below meth c none σ' 0 0 9 0 0 σ 277 [some (.ref (ad E l0)), some (.int l1), none, none, none, none, none, none, some (.int l8)] []) {l0 : Nat} {l1 : Int32} {l8 : Int32} {s0 : Nat} {s1 : Int32} {σ : Sg} (h : DX8_goesFirst_311 K277 l0 l1 l8 s0 s1 σ = some (r, σ')) : Y E p l e (rmA 4 0 0) s m args below meth c none σ' 0 0 9 0 0 σ 311 [some (.ref (ad E l0)), some (.int l1), none, none, none, none, none, none, some (.int l8)] [.int s1, .ref (ad E s0)] := by
  unfold DX8_goesFirst_311 at h
  refine x_aload_n (pc := 311) C dX8_goesFirst_311 rfl rfl ?_
  obtain ⟨k, h⟩ := chk_s h
  refine x_getJ (pc := 312) C fX8_354 rfl k dX8_goesFirst_312 ?_
  refine x_aload_n (pc := 315) C dX8_goesFirst_315 rfl rfl ?_
  obtain ⟨k, h⟩ := chk_s h
  have k2 := k
  obtain ⟨k, h⟩ := chk_s h
  refine x_getR (pc := 316) C fX8_72 rfl k2 k dX8_goesFirst_316 ?_
  refine x_iload (pc := 319) C dX8_goesFirst_319 rfl ?_
  obtain ⟨k, h⟩ := chk_s h
  refine x_lald (pc := 321) C k dX8_goesFirst_321 ?_
  refine x_lmul (pc := 322) C dX8_goesFirst_322 ?_
  refine x_goto (tgt := 327) (pc := 323) C dX8_goesFirst_323 (by decide) ?_
  exact x_sub (tX8_goesFirst_327 C hr hK277 h) (xLe_s (xLe_s (xLe_n (xLe_n (xLe_n (xLe_n (xLe_n (xLe_n (xLe_s xLe_0)))))))))
def DX8_goesFirst_334 (σ : Sg) : Option (Unit × Sg) :=
  some ((), σ)
theorem tX8_goesFirst_334 {r : Unit} {σ' : Sg} (C : Cx E p s m args meth c RX8 cX8_goesFirst 9) (hr : meth.sig.returnType = none) {σ : Sg} (h : DX8_goesFirst_334  σ = some (r, σ')) : Y E p l e (rmA 4 0 0) s m args below meth c none σ' 0 0 9 0 0 σ 334 [none, none, none, none, none, none, none, none, none] [] := by
  unfold DX8_goesFirst_334 at h
  cases h
  exact x_vret C hr dX8_goesFirst_334
def DX8_goesFirst_277 : Nat → Nat → Int32 → Int32 → Sg → Option (Unit × Sg)
  | 0, _, _, _, _ => none
  | n + 1, l0, l1, l8, σ =>
    if l1 ≤ l8 then
      DX8_goesFirst_334 σ
    else
      chk (ckO σ 6 l0) <|
      chk (ckV (gR σ l0 41)) <|
      chk (ckO σ 6 l0) <|
      chk (ckV (gR σ l0 45)) <|
      chk (ckI σ (gR σ l0 45) l8) <|
      if (aI σ (gR σ l0 45) l8.toNatClampNeg) = (1 : Int32) then
        DX8_goesFirst_311 (DX8_goesFirst_277 n) l0 l1 l8 (gR σ l0 41) l8 σ
      else
        chk (ckO σ 6 l0) <|
        chk (ckV (gR σ l0 45)) <|
        chk (ckI σ (gR σ l0 45) l8) <|
        if (aI σ (gR σ l0 45) l8.toNatClampNeg) = (2 : Int32) then
          DX8_goesFirst_311 (DX8_goesFirst_277 n) l0 l1 l8 (gR σ l0 41) l8 σ
        else
          DX8_goesFirst_327 (DX8_goesFirst_277 n) l0 l1 l8 (gR σ l0 41) l8 (0 : Int64) σ
theorem tX8_goesFirst_277 {r : Unit} {σ' : Sg} (C : Cx E p s m args meth c RX8 cX8_goesFirst 9) (hr : meth.sig.returnType = none) : ∀ (n : Nat) (l0 : Nat) (l1 : Int32) (l8 : Int32) (σ : Sg) (h : DX8_goesFirst_277 n l0 l1 l8 σ = some (r, σ')), Y E p l e (rmA 4 0 0) s m args below meth c none σ' 0 0 9 0 0 σ 277 [some (.ref (ad E l0)), some (.int l1), none, none, none, none, none, none, some (.int l8)] [] := by
  intro n
  induction n with
  | zero => intro l0 l1 l8 σ h; cases h
  | succ n ih =>
    intro l0 l1 l8 σ h
    unfold DX8_goesFirst_277 at h
    refine x_iload (pc := 277) C dX8_goesFirst_277 rfl ?_
    refine x_iload_n (pc := 279) C dX8_goesFirst_279 rfl rfl ?_
    refine x_icmp_ge (pc := 280) (tgt := 334) C dX8_goesFirst_280 (by decide) (fun q => ?_) (fun q => ?_)
    · rw [if_pos q] at h
      exact x_sub (tX8_goesFirst_334 C hr h) (xLe_n (xLe_n (xLe_n (xLe_n (xLe_n (xLe_n (xLe_n (xLe_n (xLe_n xLe_0)))))))))
    · rw [if_neg q] at h
      refine x_aload_n (pc := 283) C dX8_goesFirst_283 rfl rfl ?_
      obtain ⟨k, h⟩ := chk_s h
      have k2 := k
      obtain ⟨k, h⟩ := chk_s h
      refine x_getR (pc := 284) C fX8_69 rfl k2 k dX8_goesFirst_284 ?_
      refine x_iload (pc := 287) C dX8_goesFirst_287 rfl ?_
      refine x_aload_n (pc := 289) C dX8_goesFirst_289 rfl rfl ?_
      obtain ⟨k, h⟩ := chk_s h
      have k2 := k
      obtain ⟨k, h⟩ := chk_s h
      refine x_getR (pc := 290) C fX8_81 rfl k2 k dX8_goesFirst_290 ?_
      refine x_iload (pc := 293) C dX8_goesFirst_293 rfl ?_
      obtain ⟨k, h⟩ := chk_s h
      refine x_iald (pc := 295) C k dX8_goesFirst_295 ?_
      refine x_iconst (v := 1) (pc := 296) C dX8_goesFirst_296 (by decide) ?_
      refine x_icmp_eq (pc := 297) (tgt := 311) C dX8_goesFirst_297 (by decide) (fun q => ?_) (fun q => ?_)
      · rw [if_pos q] at h
        exact x_sub (tX8_goesFirst_311 C hr ih h) (xLe_s (xLe_s (xLe_n (xLe_n (xLe_n (xLe_n (xLe_n (xLe_n (xLe_s xLe_0)))))))))
      · rw [if_neg q] at h
        refine x_aload_n (pc := 300) C dX8_goesFirst_300 rfl rfl ?_
        obtain ⟨k, h⟩ := chk_s h
        have k2 := k
        obtain ⟨k, h⟩ := chk_s h
        refine x_getR (pc := 301) C fX8_81 rfl k2 k dX8_goesFirst_301 ?_
        refine x_iload (pc := 304) C dX8_goesFirst_304 rfl ?_
        obtain ⟨k, h⟩ := chk_s h
        refine x_iald (pc := 306) C k dX8_goesFirst_306 ?_
        refine x_iconst (v := 2) (pc := 307) C dX8_goesFirst_307 (by decide) ?_
        refine x_icmp_ne (pc := 308) (tgt := 326) C dX8_goesFirst_308 (by decide) (fun q => ?_) (fun q => ?_)
        · rw [if_pos q] at h
          exact x_sub (tX8_goesFirst_311 C hr ih h) (xLe_s (xLe_s (xLe_n (xLe_n (xLe_n (xLe_n (xLe_n (xLe_n (xLe_s xLe_0)))))))))
        · rw [if_neg q] at h
          refine x_lconst (v := 0) (pc := 326) C dX8_goesFirst_326 (by decide) ?_
          exact x_sub (tX8_goesFirst_327 C hr ih h) (xLe_s (xLe_s (xLe_n (xLe_n (xLe_n (xLe_n (xLe_n (xLe_n (xLe_s xLe_0)))))))))
def DX8_goesFirst_251 (l0 : Nat) (l1 : Int32) (l4 : Int32) (l5 : Int32) (l6 : Int64) (σ : Sg) : Option (Unit × Sg) :=
  if l4 ≤ 0 then
    if l5 = 0 then
      some ((), σ)
    else
      chk (ckO σ 6 l0) <|
      wlet (pJ σ l0 47 l6) fun σ1 =>
      DX8_goesFirst_277 FU l0 l1 (0 : Int32) σ1
  else
    chk (ckO σ 6 l0) <|
    bnd (DX8_leasts l0 l1 σ) fun _ σ2 =>
    some ((), σ2)
theorem tX8_goesFirst_251 {r : Unit} {σ' : Sg} (C : Cx E p s m args meth c RX8 cX8_goesFirst 9) (hr : meth.sig.returnType = none) {l0 : Nat} {l1 : Int32} {l4 : Int32} {l5 : Int32} {l6 : Int64} {σ : Sg} (h : DX8_goesFirst_251 l0 l1 l4 l5 l6 σ = some (r, σ')) : Y E p l e (rmA 4 0 0) s m args below meth c none σ' 0 0 9 0 0 σ 251 [some (.ref (ad E l0)), some (.int l1), none, none, some (.int l4), some (.int l5), some (.long l6), none, none] [] := by
  unfold DX8_goesFirst_251 at h
  refine x_iload (pc := 251) C dX8_goesFirst_251 rfl ?_
  refine x_if_le (pc := 253) (tgt := 262) C dX8_goesFirst_253 (by decide) (fun q => ?_) (fun q => ?_)
  · rw [if_pos q] at h
    refine x_iload (pc := 262) C dX8_goesFirst_262 rfl ?_
    refine x_if_ne (pc := 264) (tgt := 268) C dX8_goesFirst_264 (by decide) (fun q => ?_) (fun q => ?_)
    · rw [if_pos q] at h
      cases h
      exact x_vret C hr dX8_goesFirst_267
    · rw [if_neg q] at h
      refine x_aload_n (pc := 268) C dX8_goesFirst_268 rfl rfl ?_
      refine x_lload (pc := 269) C dX8_goesFirst_269 rfl ?_
      obtain ⟨k, h⟩ := chk_s h
      obtain ⟨σ1, e1, h⟩ := wlet_s h
      refine x_putJ (pc := 271) C pX8_338 rfl k dX8_goesFirst_271 (x_eq e1 ?_)
      refine x_iconst (v := 0) (pc := 274) C dX8_goesFirst_274 (by decide) ?_
      refine x_istore (M := [some _, some _, none, none, some _, some _, some _, none, some _]) (pc := 275) C dX8_goesFirst_275 (by decide) rfl ?_
      exact x_sub (tX8_goesFirst_277 C hr FU _ _ _ _ h) (xLe_s (xLe_s (xLe_n (xLe_n (xLe_n (xLe_n (xLe_n (xLe_n (xLe_s xLe_0)))))))))
  · rw [if_neg q] at h
    refine x_aload_n (pc := 256) C dX8_goesFirst_256 rfl rfl ?_
    refine x_iload_n (pc := 257) C dX8_goesFirst_257 rfl rfl ?_
    obtain ⟨k, h⟩ := chk_s h
    have k2 := k
    obtain ⟨u0, σ2, k, h⟩ := bnd_s h
    refine x_callV0 (pc := 258) C (mX8_leasts E l k) cl6 k2 cX8_367 nX8_leasts sX8_leasts rfl rfl (Nat.le_of_ble_eq_true rfl) ⟨Nat.le_of_ble_eq_true rfl, Nat.le_of_ble_eq_true rfl, Nat.le_of_ble_eq_true rfl, Nat.le_of_ble_eq_true rfl⟩ dX8_goesFirst_258 ?_
    cases h
    exact x_vret C hr dX8_goesFirst_261
def DX8_goesFirst_179 : Nat → Nat → Int32 → Int32 → Int32 → Int64 → Int32 → Sg → Option (Unit × Sg)
  | 0, _, _, _, _, _, _, _ => none
  | n + 1, l0, l1, l4, l5, l6, l8, σ =>
    if l1 ≤ l8 then
      DX8_goesFirst_251 l0 l1 l4 l5 l6 σ
    else
      chk (ckO σ 6 l0) <|
      chk (ckV (gR σ l0 46)) <|
      chk (ckZ σ (gR σ l0 46) l8) <|
      if (aI σ (gR σ l0 46) l8.toNatClampNeg) = 0 then
        DX8_goesFirst_245 (DX8_goesFirst_179 n) l0 l1 l4 l5 l6 l8 σ
      else
        chk (ckO σ 6 l0) <|
        chk (ckV (gR σ l0 44)) <|
        chk (ckI σ (gR σ l0 44) l8) <|
        bnd (DX8_isFirst (aI σ (gR σ l0 44) l8.toNatClampNeg) σ) fun v1 σ2 =>
        if v1 = 0 then
          DX8_goesFirst_245 (DX8_goesFirst_179 n) l0 l1 l4 l5 l6 l8 σ2
        else
          chk (ckO σ2 6 l0) <|
          chk (ckV (gR σ2 l0 40)) <|
          chk (ckO σ2 6 l0) <|
          chk (ckV (gR σ2 l0 43)) <|
          chk (ckJ σ2 (gR σ2 l0 43) l8) <|
          chk (ckJ σ2 (gR σ2 l0 40) l8) <|
          wlet (wJ σ2 (gR σ2 l0 40) l8.toNatClampNeg (aJ σ2 (gR σ2 l0 43) l8.toNatClampNeg)) fun σ3 =>
          chk (ckO σ3 6 l0) <|
          chk (ckV (gR σ3 l0 46)) <|
          chk (ckZ σ3 (gR σ3 l0 46) l8) <|
          chk (ck01 (0 : Int32)) <|
          wlet (wI σ3 (gR σ3 l0 46) l8.toNatClampNeg (0 : Int32)) fun σ4 =>
          chk (ckO σ4 6 l0) <|
          chk (ckV (gR σ4 l0 42)) <|
          chk (ckJ σ4 (gR σ4 l0 42) l8) <|
          DX8_goesFirst_245 (DX8_goesFirst_179 n) l0 l1 l4 l5 (l6 + (aJ σ4 (gR σ4 l0 42) l8.toNatClampNeg)) l8 σ4
theorem tX8_goesFirst_179 {r : Unit} {σ' : Sg} (C : Cx E p s m args meth c RX8 cX8_goesFirst 9) (hr : meth.sig.returnType = none) : ∀ (n : Nat) (l0 : Nat) (l1 : Int32) (l4 : Int32) (l5 : Int32) (l6 : Int64) (l8 : Int32) (σ : Sg) (h : DX8_goesFirst_179 n l0 l1 l4 l5 l6 l8 σ = some (r, σ')), Y E p l e (rmA 4 0 0) s m args below meth c none σ' 0 0 9 0 0 σ 179 [some (.ref (ad E l0)), some (.int l1), none, none, some (.int l4), some (.int l5), some (.long l6), none, some (.int l8)] [] := by
  intro n
  induction n with
  | zero => intro l0 l1 l4 l5 l6 l8 σ h; cases h
  | succ n ih =>
    intro l0 l1 l4 l5 l6 l8 σ h
    unfold DX8_goesFirst_179 at h
    refine x_iload (pc := 179) C dX8_goesFirst_179 rfl ?_
    refine x_iload_n (pc := 181) C dX8_goesFirst_181 rfl rfl ?_
    refine x_icmp_ge (pc := 182) (tgt := 251) C dX8_goesFirst_182 (by decide) (fun q => ?_) (fun q => ?_)
    · rw [if_pos q] at h
      exact x_sub (tX8_goesFirst_251 C hr h) (xLe_s (xLe_s (xLe_n (xLe_n (xLe_s (xLe_s (xLe_s (xLe_n (xLe_n xLe_0)))))))))
    · rw [if_neg q] at h
      refine x_aload_n (pc := 185) C dX8_goesFirst_185 rfl rfl ?_
      obtain ⟨k, h⟩ := chk_s h
      have k2 := k
      obtain ⟨k, h⟩ := chk_s h
      refine x_getR (pc := 186) C fX8_84 rfl k2 k dX8_goesFirst_186 ?_
      refine x_iload (pc := 189) C dX8_goesFirst_189 rfl ?_
      obtain ⟨k, h⟩ := chk_s h
      refine x_zald (pc := 191) C k dX8_goesFirst_191 ?_
      refine x_if_eq (pc := 192) (tgt := 245) C dX8_goesFirst_192 (by decide) (fun q => ?_) (fun q => ?_)
      · rw [if_pos q] at h
        exact x_sub (tX8_goesFirst_245 C hr ih h) (xLe_s (xLe_s (xLe_n (xLe_n (xLe_s (xLe_s (xLe_s (xLe_n (xLe_s xLe_0)))))))))
      · rw [if_neg q] at h
        refine x_aload_n (pc := 195) C dX8_goesFirst_195 rfl rfl ?_
        obtain ⟨k, h⟩ := chk_s h
        have k2 := k
        obtain ⟨k, h⟩ := chk_s h
        refine x_getR (pc := 196) C fX8_78 rfl k2 k dX8_goesFirst_196 ?_
        refine x_iload (pc := 199) C dX8_goesFirst_199 rfl ?_
        obtain ⟨k, h⟩ := chk_s h
        refine x_iald (pc := 201) C k dX8_goesFirst_201 ?_
        obtain ⟨v1, σ2, k, h⟩ := bnd_s h
        refine x_callS1 (pc := 202) C (mX8_isFirst E l k) cX8_364 zX8_isFirst rfl rfl (Nat.le_of_ble_eq_true rfl) ⟨Nat.le_of_ble_eq_true rfl, Nat.le_of_ble_eq_true rfl, Nat.le_of_ble_eq_true rfl, Nat.le_of_ble_eq_true rfl⟩ dX8_goesFirst_202 ?_
        refine x_if_ne (pc := 205) (tgt := 211) C dX8_goesFirst_205 (by decide) (fun q => ?_) (fun q => ?_)
        · rw [if_pos q] at h
          refine x_goto (tgt := 245) (pc := 208) C dX8_goesFirst_208 (by decide) ?_
          exact x_sub (tX8_goesFirst_245 C hr ih h) (xLe_s (xLe_s (xLe_n (xLe_n (xLe_s (xLe_s (xLe_s (xLe_n (xLe_s xLe_0)))))))))
        · rw [if_neg q] at h
          refine x_aload_n (pc := 211) C dX8_goesFirst_211 rfl rfl ?_
          obtain ⟨k, h⟩ := chk_s h
          have k2 := k
          obtain ⟨k, h⟩ := chk_s h
          refine x_getR (pc := 212) C fX8_65 rfl k2 k dX8_goesFirst_212 ?_
          refine x_iload (pc := 215) C dX8_goesFirst_215 rfl ?_
          refine x_aload_n (pc := 217) C dX8_goesFirst_217 rfl rfl ?_
          obtain ⟨k, h⟩ := chk_s h
          have k2 := k
          obtain ⟨k, h⟩ := chk_s h
          refine x_getR (pc := 218) C fX8_75 rfl k2 k dX8_goesFirst_218 ?_
          refine x_iload (pc := 221) C dX8_goesFirst_221 rfl ?_
          obtain ⟨k, h⟩ := chk_s h
          refine x_lald (pc := 223) C k dX8_goesFirst_223 ?_
          obtain ⟨k, h⟩ := chk_s h
          obtain ⟨σ3, e1, h⟩ := wlet_s h
          refine x_last (pc := 224) C k dX8_goesFirst_224 (x_eq e1 ?_)
          refine x_aload_n (pc := 225) C dX8_goesFirst_225 rfl rfl ?_
          obtain ⟨k, h⟩ := chk_s h
          have k2 := k
          obtain ⟨k, h⟩ := chk_s h
          refine x_getR (pc := 226) C fX8_84 rfl k2 k dX8_goesFirst_226 ?_
          refine x_iload (pc := 229) C dX8_goesFirst_229 rfl ?_
          refine x_iconst (v := 0) (pc := 231) C dX8_goesFirst_231 (by decide) ?_
          obtain ⟨k, h⟩ := chk_s h
          have k2 := k
          obtain ⟨k, h⟩ := chk_s h
          obtain ⟨σ4, e1, h⟩ := wlet_s h
          refine x_zast (pc := 232) C k2 k dX8_goesFirst_232 (x_eq e1 ?_)
          refine x_lload (pc := 233) C dX8_goesFirst_233 rfl ?_
          refine x_aload_n (pc := 235) C dX8_goesFirst_235 rfl rfl ?_
          obtain ⟨k, h⟩ := chk_s h
          have k2 := k
          obtain ⟨k, h⟩ := chk_s h
          refine x_getR (pc := 236) C fX8_72 rfl k2 k dX8_goesFirst_236 ?_
          refine x_iload (pc := 239) C dX8_goesFirst_239 rfl ?_
          obtain ⟨k, h⟩ := chk_s h
          refine x_lald (pc := 241) C k dX8_goesFirst_241 ?_
          refine x_ladd (pc := 242) C dX8_goesFirst_242 ?_
          refine x_lstore (M := [some _, some _, none, none, some _, some _, some _, none, some _]) (pc := 243) C dX8_goesFirst_243 (by decide) rfl ?_
          exact x_sub (tX8_goesFirst_245 C hr ih h) (xLe_s (xLe_s (xLe_n (xLe_n (xLe_s (xLe_s (xLe_s (xLe_n (xLe_s xLe_0)))))))))
def DX8_goesFirst_163 (l0 : Nat) (l1 : Int32) (l2 : Int64) (l4 : Int32) (l5 : Int32) (σ : Sg) : Option (Unit × Sg) :=
  chk (ckO σ 6 l0) <|
  chk (ckO σ 6 l0) <|
  wlet (pJ σ l0 48 ((gJ σ l0 48) - l2)) fun σ1 =>
  DX8_goesFirst_179 FU l0 l1 l4 l5 (0 : Int64) (0 : Int32) σ1
theorem tX8_goesFirst_163 {r : Unit} {σ' : Sg} (C : Cx E p s m args meth c RX8 cX8_goesFirst 9) (hr : meth.sig.returnType = none) {l0 : Nat} {l1 : Int32} {l2 : Int64} {l4 : Int32} {l5 : Int32} {σ : Sg} (h : DX8_goesFirst_163 l0 l1 l2 l4 l5 σ = some (r, σ')) : Y E p l e (rmA 4 0 0) s m args below meth c none σ' 0 0 9 0 0 σ 163 [some (.ref (ad E l0)), some (.int l1), some (.long l2), none, some (.int l4), some (.int l5), none, none, none] [] := by
  unfold DX8_goesFirst_163 at h
  refine x_aload_n (pc := 163) C dX8_goesFirst_163 rfl rfl ?_
  refine x_dup (pc := 164) C dX8_goesFirst_164 rfl ?_
  obtain ⟨k, h⟩ := chk_s h
  refine x_getJ (pc := 165) C fX8_354 rfl k dX8_goesFirst_165 ?_
  refine x_lload_n (pc := 168) C dX8_goesFirst_168 rfl rfl ?_
  refine x_lsub (pc := 169) C dX8_goesFirst_169 ?_
  obtain ⟨k, h⟩ := chk_s h
  obtain ⟨σ1, e1, h⟩ := wlet_s h
  refine x_putJ (pc := 170) C pX8_354 rfl k dX8_goesFirst_170 (x_eq e1 ?_)
  refine x_lconst (v := 0) (pc := 173) C dX8_goesFirst_173 (by decide) ?_
  refine x_lstore (M := [some _, some _, some _, none, some _, some _, some _, none, none]) (pc := 174) C dX8_goesFirst_174 (by decide) rfl ?_
  refine x_iconst (v := 0) (pc := 176) C dX8_goesFirst_176 (by decide) ?_
  refine x_istore (M := [some _, some _, some _, none, some _, some _, some _, none, some _]) (pc := 177) C dX8_goesFirst_177 (by decide) rfl ?_
  exact x_sub (tX8_goesFirst_179 C hr FU _ _ _ _ _ _ _ h) (xLe_s (xLe_s (xLe_n (xLe_n (xLe_s (xLe_s (xLe_s (xLe_n (xLe_s xLe_0)))))))))
def DX8_goesFirst_82 (l0 : Nat) (l1 : Int32) (l2 : Int64) (l4 : Int32) (l5 : Int32) (σ : Sg) : Option (Unit × Sg) :=
  if l5 ≤ 0 then
    DX8_goesFirst_163 l0 l1 l2 l4 l5 σ
  else
    chk (ckO σ 6 l0) <|
    if l2 ≤ (gJ σ l0 48) then
      DX8_goesFirst_163 l0 l1 l2 l4 l5 σ
    else
      DX8_goesFirst_99 FU l0 l1 l2 (0 : Int32) σ
theorem tX8_goesFirst_82 {r : Unit} {σ' : Sg} (C : Cx E p s m args meth c RX8 cX8_goesFirst 9) (hr : meth.sig.returnType = none) {l0 : Nat} {l1 : Int32} {l2 : Int64} {l4 : Int32} {l5 : Int32} {σ : Sg} (h : DX8_goesFirst_82 l0 l1 l2 l4 l5 σ = some (r, σ')) : Y E p l e (rmA 4 0 0) s m args below meth c none σ' 0 0 9 0 0 σ 82 [some (.ref (ad E l0)), some (.int l1), some (.long l2), none, some (.int l4), some (.int l5), none, none, none] [] := by
  unfold DX8_goesFirst_82 at h
  refine x_iload (pc := 82) C dX8_goesFirst_82 rfl ?_
  refine x_if_le (pc := 84) (tgt := 163) C dX8_goesFirst_84 (by decide) (fun q => ?_) (fun q => ?_)
  · rw [if_pos q] at h
    exact x_sub (tX8_goesFirst_163 C hr h) (xLe_s (xLe_s (xLe_s (xLe_n (xLe_s (xLe_s (xLe_n (xLe_n (xLe_n xLe_0)))))))))
  · rw [if_neg q] at h
    refine x_lload_n (pc := 87) C dX8_goesFirst_87 rfl rfl ?_
    refine x_aload_n (pc := 88) C dX8_goesFirst_88 rfl rfl ?_
    obtain ⟨k, h⟩ := chk_s h
    refine x_getJ (pc := 89) C fX8_354 rfl k dX8_goesFirst_89 ?_
    refine x_lcmp (pc := 92) C dX8_goesFirst_92 ?_
    refine x_lif_le (pc := 93) (tgt := 163) C dX8_goesFirst_93 (by decide) (fun q => ?_) (fun q => ?_)
    · rw [if_pos q] at h
      exact x_sub (tX8_goesFirst_163 C hr h) (xLe_s (xLe_s (xLe_s (xLe_n (xLe_s (xLe_s (xLe_n (xLe_n (xLe_n xLe_0)))))))))
    · rw [if_neg q] at h
      refine x_iconst (v := 0) (pc := 96) C dX8_goesFirst_96 (by decide) ?_
      refine x_istore (M := [some _, some _, some _, none, some _, some _, some _, none, none]) (pc := 97) C dX8_goesFirst_97 (by decide) rfl ?_
      exact x_sub (tX8_goesFirst_99 C hr FU _ _ _ _ _ h) (xLe_s (xLe_s (xLe_s (xLe_n (xLe_n (xLe_n (xLe_s (xLe_n (xLe_n xLe_0)))))))))
def DX8_goesFirst_11 : Nat → Nat → Int32 → Int64 → Int32 → Int32 → Int32 → Sg → Option (Unit × Sg)
  | 0, _, _, _, _, _, _, _ => none
  | n + 1, l0, l1, l2, l4, l5, l6, σ =>
    if l1 ≤ l6 then
      DX8_goesFirst_82 l0 l1 l2 l4 l5 σ
    else
      chk (ckO σ 6 l0) <|
      chk (ckV (gR σ l0 46)) <|
      chk (ckZ σ (gR σ l0 46) l6) <|
      if (aI σ (gR σ l0 46) l6.toNatClampNeg) = 0 then
        DX8_goesFirst_76 (DX8_goesFirst_11 n) l0 l1 l2 l4 l5 l6 σ
      else
        chk (ckO σ 6 l0) <|
        chk (ckV (gR σ l0 44)) <|
        chk (ckI σ (gR σ l0 44) l6) <|
        bnd (DX8_isFirst (aI σ (gR σ l0 44) l6.toNatClampNeg) σ) fun v1 σ2 =>
        if v1 = 0 then
          DX8_goesFirst_76 (DX8_goesFirst_11 n) l0 l1 l2 (l4 + (1 : Int32)) l5 l6 σ2
        else
          chk (ckO σ2 6 l0) <|
          chk (ckV (gR σ2 l0 43)) <|
          chk (ckJ σ2 (gR σ2 l0 43) l6) <|
          chk (ckO σ2 6 l0) <|
          chk (ckV (gR σ2 l0 45)) <|
          chk (ckO σ2 6 l0) <|
          chk (ckV (gR σ2 l0 44)) <|
          chk (ckI σ2 (gR σ2 l0 44) l6) <|
          chk (ckI σ2 (gR σ2 l0 45) l6) <|
          wlet (wI σ2 (gR σ2 l0 45) l6.toNatClampNeg (aI σ2 (gR σ2 l0 44) l6.toNatClampNeg)) fun σ3 =>
          DX8_goesFirst_76 (DX8_goesFirst_11 n) l0 l1 (l2 + (aJ σ2 (gR σ2 l0 43) l6.toNatClampNeg)) l4 (l5 + (1 : Int32)) l6 σ3
theorem tX8_goesFirst_11 {r : Unit} {σ' : Sg} (C : Cx E p s m args meth c RX8 cX8_goesFirst 9) (hr : meth.sig.returnType = none) : ∀ (n : Nat) (l0 : Nat) (l1 : Int32) (l2 : Int64) (l4 : Int32) (l5 : Int32) (l6 : Int32) (σ : Sg) (h : DX8_goesFirst_11 n l0 l1 l2 l4 l5 l6 σ = some (r, σ')), Y E p l e (rmA 4 0 0) s m args below meth c none σ' 0 0 9 0 0 σ 11 [some (.ref (ad E l0)), some (.int l1), some (.long l2), none, some (.int l4), some (.int l5), some (.int l6), none, none] [] := by
  intro n
  induction n with
  | zero => intro l0 l1 l2 l4 l5 l6 σ h; cases h
  | succ n ih =>
    intro l0 l1 l2 l4 l5 l6 σ h
    unfold DX8_goesFirst_11 at h
    refine x_iload (pc := 11) C dX8_goesFirst_11 rfl ?_
    refine x_iload_n (pc := 13) C dX8_goesFirst_13 rfl rfl ?_
    refine x_icmp_ge (pc := 14) (tgt := 82) C dX8_goesFirst_14 (by decide) (fun q => ?_) (fun q => ?_)
    · rw [if_pos q] at h
      exact x_sub (tX8_goesFirst_82 C hr h) (xLe_s (xLe_s (xLe_s (xLe_n (xLe_s (xLe_s (xLe_n (xLe_n (xLe_n xLe_0)))))))))
    · rw [if_neg q] at h
      refine x_aload_n (pc := 17) C dX8_goesFirst_17 rfl rfl ?_
      obtain ⟨k, h⟩ := chk_s h
      have k2 := k
      obtain ⟨k, h⟩ := chk_s h
      refine x_getR (pc := 18) C fX8_84 rfl k2 k dX8_goesFirst_18 ?_
      refine x_iload (pc := 21) C dX8_goesFirst_21 rfl ?_
      obtain ⟨k, h⟩ := chk_s h
      refine x_zald (pc := 23) C k dX8_goesFirst_23 ?_
      refine x_if_ne (pc := 24) (tgt := 30) C dX8_goesFirst_24 (by decide) (fun q => ?_) (fun q => ?_)
      · rw [if_pos q] at h
        refine x_goto (tgt := 76) (pc := 27) C dX8_goesFirst_27 (by decide) ?_
        exact x_sub (tX8_goesFirst_76 C hr ih h) (xLe_s (xLe_s (xLe_s (xLe_n (xLe_s (xLe_s (xLe_s (xLe_n (xLe_n xLe_0)))))))))
      · rw [if_neg q] at h
        refine x_aload_n (pc := 30) C dX8_goesFirst_30 rfl rfl ?_
        obtain ⟨k, h⟩ := chk_s h
        have k2 := k
        obtain ⟨k, h⟩ := chk_s h
        refine x_getR (pc := 31) C fX8_78 rfl k2 k dX8_goesFirst_31 ?_
        refine x_iload (pc := 34) C dX8_goesFirst_34 rfl ?_
        obtain ⟨k, h⟩ := chk_s h
        refine x_iald (pc := 36) C k dX8_goesFirst_36 ?_
        obtain ⟨v1, σ2, k, h⟩ := bnd_s h
        refine x_callS1 (pc := 37) C (mX8_isFirst E l k) cX8_364 zX8_isFirst rfl rfl (Nat.le_of_ble_eq_true rfl) ⟨Nat.le_of_ble_eq_true rfl, Nat.le_of_ble_eq_true rfl, Nat.le_of_ble_eq_true rfl, Nat.le_of_ble_eq_true rfl⟩ dX8_goesFirst_37 ?_
        refine x_if_eq (pc := 40) (tgt := 73) C dX8_goesFirst_40 (by decide) (fun q => ?_) (fun q => ?_)
        · rw [if_pos q] at h
          refine x_iinc (v := 1) (M := [some _, some _, some _, none, some _, some _, some _, none, none]) (pc := 73) C dX8_goesFirst_73 rfl (by decide) (by decide) rfl ?_
          exact x_sub (tX8_goesFirst_76 C hr ih h) (xLe_s (xLe_s (xLe_s (xLe_n (xLe_s (xLe_s (xLe_s (xLe_n (xLe_n xLe_0)))))))))
        · rw [if_neg q] at h
          refine x_lload_n (pc := 43) C dX8_goesFirst_43 rfl rfl ?_
          refine x_aload_n (pc := 44) C dX8_goesFirst_44 rfl rfl ?_
          obtain ⟨k, h⟩ := chk_s h
          have k2 := k
          obtain ⟨k, h⟩ := chk_s h
          refine x_getR (pc := 45) C fX8_75 rfl k2 k dX8_goesFirst_45 ?_
          refine x_iload (pc := 48) C dX8_goesFirst_48 rfl ?_
          obtain ⟨k, h⟩ := chk_s h
          refine x_lald (pc := 50) C k dX8_goesFirst_50 ?_
          refine x_ladd (pc := 51) C dX8_goesFirst_51 ?_
          refine x_lstore_n (M := [some _, some _, some _, none, some _, some _, some _, none, none]) (pc := 52) C dX8_goesFirst_52 rfl (by decide) rfl ?_
          refine x_aload_n (pc := 53) C dX8_goesFirst_53 rfl rfl ?_
          obtain ⟨k, h⟩ := chk_s h
          have k2 := k
          obtain ⟨k, h⟩ := chk_s h
          refine x_getR (pc := 54) C fX8_81 rfl k2 k dX8_goesFirst_54 ?_
          refine x_iload (pc := 57) C dX8_goesFirst_57 rfl ?_
          refine x_aload_n (pc := 59) C dX8_goesFirst_59 rfl rfl ?_
          obtain ⟨k, h⟩ := chk_s h
          have k2 := k
          obtain ⟨k, h⟩ := chk_s h
          refine x_getR (pc := 60) C fX8_78 rfl k2 k dX8_goesFirst_60 ?_
          refine x_iload (pc := 63) C dX8_goesFirst_63 rfl ?_
          obtain ⟨k, h⟩ := chk_s h
          refine x_iald (pc := 65) C k dX8_goesFirst_65 ?_
          obtain ⟨k, h⟩ := chk_s h
          obtain ⟨σ3, e1, h⟩ := wlet_s h
          refine x_iast (pc := 66) C k dX8_goesFirst_66 (x_eq e1 ?_)
          refine x_iinc (v := 1) (M := [some _, some _, some _, none, some _, some _, some _, none, none]) (pc := 67) C dX8_goesFirst_67 rfl (by decide) (by decide) rfl ?_
          refine x_goto (tgt := 76) (pc := 70) C dX8_goesFirst_70 (by decide) ?_
          exact x_sub (tX8_goesFirst_76 C hr ih h) (xLe_s (xLe_s (xLe_s (xLe_n (xLe_s (xLe_s (xLe_s (xLe_n (xLe_n xLe_0)))))))))
def DX8_goesFirst (l0 : Nat) (l1 : Int32) (σ : Sg) : Option (Unit × Sg) :=
  DX8_goesFirst_11 FU l0 l1 (0 : Int64) (0 : Int32) (0 : Int32) (0 : Int32) σ
theorem mX8_goesFirst (E : Ev) (l : Launch) {l0 : Nat} {l1 : Int32} {σ : Sg} {r : Unit} {σ' : Sg} (h : DX8_goesFirst l0 l1 σ = some (r, σ')) : Mt E l yX8_goesFirst cX8_goesFirst 9 none 4 0 0 [.ref (ad E l0), .int l1] σ none σ' := by
  refine Mt.ofX (by decide) (Nat.le_of_ble_eq_true rfl) (L0 := [some (.ref (ad E l0)), some (.int l1), none, none, none, none, none, none, none]) (xEntN_ok [.ref (ad E l0), .int l1] 9) (fun p e s m args below meth c C hr hn => ?_)
  unfold DX8_goesFirst at h
  refine x_lconst (v := 0) (pc := 0) C dX8_goesFirst_0 (by decide) ?_
  refine x_lstore_n (M := [some _, some _, some _, none, none, none, none, none, none]) (pc := 1) C dX8_goesFirst_1 rfl (by decide) rfl ?_
  refine x_iconst (v := 0) (pc := 2) C dX8_goesFirst_2 (by decide) ?_
  refine x_istore (M := [some _, some _, some _, none, some _, none, none, none, none]) (pc := 3) C dX8_goesFirst_3 (by decide) rfl ?_
  refine x_iconst (v := 0) (pc := 5) C dX8_goesFirst_5 (by decide) ?_
  refine x_istore (M := [some _, some _, some _, none, some _, some _, none, none, none]) (pc := 6) C dX8_goesFirst_6 (by decide) rfl ?_
  refine x_iconst (v := 0) (pc := 8) C dX8_goesFirst_8 (by decide) ?_
  refine x_istore (M := [some _, some _, some _, none, some _, some _, some _, none, none]) (pc := 9) C dX8_goesFirst_9 (by decide) rfl ?_
  exact x_sub (tX8_goesFirst_11 C hr FU _ _ _ _ _ _ _ h) (xLe_s (xLe_s (xLe_s (xLe_n (xLe_s (xLe_s (xLe_s (xLe_n (xLe_n xLe_0)))))))))
end

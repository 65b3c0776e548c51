section
variable {E : Ev} {p : Program} {l : Launch} {e : Env} {s : State} {m : MethodId} {args : Array Value} {below : List Frame} {meth : Method} {c : Code}
def DX3_init (l0 : Nat) (l1 : Nat) (l2 : Nat) (σ : Sg) : Option (Unit × Sg) :=
  chk (ckO σ 2 l0) <|
  wlet (pI σ l0 2 (0 : Int32)) fun σ1 =>
  chk (ckO σ1 2 l0) <|
  wlet (pI σ1 l0 3 (0 : Int32)) fun σ2 =>
  chk (ckO σ2 2 l0) <|
  chk (ckV 1000) <|
  wlet (pR σ2 l0 4 1000) fun σ3 =>
  chk (ckO σ3 2 l0) <|
  wlet (pI σ3 l0 5 (0 : Int32)) fun σ4 =>
  chk (ckO σ4 2 l0) <|
  wlet (pJ σ4 l0 6 (0 : Int64)) fun σ5 =>
  chk (ckO σ5 2 l0) <|
  wlet (pI σ5 l0 7 (0 : Int32)) fun σ6 =>
  chk (ckO σ6 2 l0) <|
  wlet (pI σ6 l0 8 (0 : Int32)) fun σ7 =>
  chk (ckO σ7 2 l0) <|
  wlet (pI σ7 l0 9 (0 : Int32)) fun σ8 =>
  chk (ckO σ8 2 l0) <|
  wlet (pI σ8 l0 10 (-1 : Int32)) fun σ9 =>
  chk (ckO σ9 2 l0) <|
  chk (ckV l1) <|
  wlet (pR σ9 l0 0 l1) fun σ10 =>
  chk (ckO σ10 2 l0) <|
  chk (ckV l2) <|
  wlet (pR σ10 l0 1 l2) fun σ11 =>
  some ((), σ11)
theorem mX3_init (E : Ev) (l : Launch) {l0 : Nat} {l1 : Nat} {l2 : Nat} {σ : Sg} {r : Unit} {σ' : Sg} (h : DX3_init l0 l1 l2 σ = some (r, σ')) : Mt E l yX3_init cX3_init 3 none 1 0 0 [.ref (ad E l0), .ref (ad E l1), .ref (ad E l2)] σ none σ' := by
  refine Mt.ofX (by decide) (Nat.le_of_ble_eq_true rfl) (L0 := [some (.ref (ad E l0)), some (.ref (ad E l1)), some (.ref (ad E l2))]) (xEntN_ok [.ref (ad E l0), .ref (ad E l1), .ref (ad E l2)] 3) (fun p e s m args below meth c C hr hn => ?_)
  unfold DX3_init at h
  refine x_aload_n (pc := 0) C dX3_init_0 rfl rfl ?_
  refine x_objInit (pc := 1) C oX3_3 oi1 oi2 ⟨Nat.le_of_ble_eq_true rfl, Nat.le_of_ble_eq_true rfl⟩ dX3_init_1 ?_
  refine x_aload_n (pc := 4) C dX3_init_4 rfl rfl ?_
  refine x_iconst (v := 0) (pc := 5) C dX3_init_5 (by decide) ?_
  obtain ⟨k, h⟩ := chk_s h
  obtain ⟨σ1, e1, h⟩ := wlet_s h
  refine x_putI (pc := 6) C pX3_9 rfl k dX3_init_6 (x_eq e1 ?_)
  refine x_aload_n (pc := 9) C dX3_init_9 rfl rfl ?_
  refine x_iconst (v := 0) (pc := 10) C dX3_init_10 (by decide) ?_
  obtain ⟨k, h⟩ := chk_s h
  obtain ⟨σ2, e1, h⟩ := wlet_s h
  refine x_putI (pc := 11) C pX3_15 rfl k dX3_init_11 (x_eq e1 ?_)
  refine x_aload_n (pc := 14) C dX3_init_14 rfl rfl ?_
  refine x_getTok (pc := 15) C 0 (by decide) gX3_18 dX3_init_15 ?_
  obtain ⟨k, h⟩ := chk_s h
  have k2 := k
  obtain ⟨k, h⟩ := chk_s h
  obtain ⟨σ3, e1, h⟩ := wlet_s h
  refine x_putR (pc := 18) C pX3_24 (Or.inl ⟨_, rfl⟩) k2 k dX3_init_18 (x_eq e1 ?_)
  refine x_aload_n (pc := 21) C dX3_init_21 rfl rfl ?_
  refine x_iconst (v := 0) (pc := 22) C dX3_init_22 (by decide) ?_
  obtain ⟨k, h⟩ := chk_s h
  obtain ⟨σ4, e1, h⟩ := wlet_s h
  refine x_putI (pc := 23) C pX3_27 rfl k dX3_init_23 (x_eq e1 ?_)
  refine x_aload_n (pc := 26) C dX3_init_26 rfl rfl ?_
  refine x_lconst (v := 0) (pc := 27) C dX3_init_27 (by decide) ?_
  obtain ⟨k, h⟩ := chk_s h
  obtain ⟨σ5, e1, h⟩ := wlet_s h
  refine x_putJ (pc := 28) C pX3_30 rfl k dX3_init_28 (x_eq e1 ?_)
  refine x_aload_n (pc := 31) C dX3_init_31 rfl rfl ?_
  refine x_iconst (v := 0) (pc := 32) C dX3_init_32 (by decide) ?_
  obtain ⟨k, h⟩ := chk_s h
  obtain ⟨σ6, e1, h⟩ := wlet_s h
  refine x_putI (pc := 33) C pX3_34 rfl k dX3_init_33 (x_eq e1 ?_)
  refine x_aload_n (pc := 36) C dX3_init_36 rfl rfl ?_
  refine x_iconst (v := 0) (pc := 37) C dX3_init_37 (by decide) ?_
  obtain ⟨k, h⟩ := chk_s h
  obtain ⟨σ7, e1, h⟩ := wlet_s h
  refine x_putI (pc := 38) C pX3_37 rfl k dX3_init_38 (x_eq e1 ?_)
  refine x_aload_n (pc := 41) C dX3_init_41 rfl rfl ?_
  refine x_iconst (v := 0) (pc := 42) C dX3_init_42 (by decide) ?_
  obtain ⟨k, h⟩ := chk_s h
  obtain ⟨σ8, e1, h⟩ := wlet_s h
  refine x_putI (pc := 43) C pX3_40 rfl k dX3_init_43 (x_eq e1 ?_)
  refine x_aload_n (pc := 46) C dX3_init_46 rfl rfl ?_
  refine x_iconst (v := -1) (pc := 47) C dX3_init_47 (by decide) ?_
  obtain ⟨k, h⟩ := chk_s h
  obtain ⟨σ9, e1, h⟩ := wlet_s h
  refine x_putI (pc := 48) C pX3_43 rfl k dX3_init_48 (x_eq e1 ?_)
  refine x_aload_n (pc := 51) C dX3_init_51 rfl rfl ?_
  refine x_aload_n (pc := 52) C dX3_init_52 rfl rfl ?_
  obtain ⟨k, h⟩ := chk_s h
  have k2 := k
  obtain ⟨k, h⟩ := chk_s h
  obtain ⟨σ10, e1, h⟩ := wlet_s h
  refine x_putQ (pc := 53) C qX3_46 hn (Or.inr ⟨_, rfl⟩) k2 k dX3_init_53 (x_eq e1 ?_)
  refine x_aload_n (pc := 56) C dX3_init_56 rfl rfl ?_
  refine x_aload_n (pc := 57) C dX3_init_57 rfl rfl ?_
  obtain ⟨k, h⟩ := chk_s h
  have k2 := k
  obtain ⟨k, h⟩ := chk_s h
  obtain ⟨σ11, e1, h⟩ := wlet_s h
  refine x_putR (pc := 58) C pX3_50 (Or.inl ⟨_, rfl⟩) k2 k dX3_init_58 (x_eq e1 ?_)
  cases h
  exact x_vret C hr dX3_init_61
def DX3_scanWord_88 (K10 : Nat → Int32 → Sg → Option (Unit × Sg)) (l0 : Nat) (l1 : Int32) (σ : Sg) : Option (Unit × Sg) :=
  chk (ckO σ 2 l0) <|
  chk (ckO σ 2 l0) <|
  wlet (pI σ l0 3 ((gI σ l0 3) + (1 : Int32))) fun σ1 =>
  K10 l0 l1 σ1
theorem tX3_scanWord_88 {r : Unit} {σ' : Sg} (C : Cx E p s m args meth c RX3 cX3_scanWord 4) (hr : meth.sig.returnType = none) {K10 : Nat → Int32 → Sg → Option (Unit × Sg)} (hK10 : ∀ (l0 : Nat) (l1 : Int32) (σ : Sg), K10 l0 l1 σ = some (r, σ') → Y E p l e (rmA 1 0 0) s m args below meth c none σ' 0 0 4 0 0 σ 10 [some (.ref (ad E l0)), some (.int l1), none, none] []) {l0 : Nat} {l1 : Int32} {σ : Sg} (h : DX3_scanWord_88 K10 l0 l1 σ = some (r, σ')) : Y E p l e (rmA 1 0 0) s m args below meth c none σ' 0 0 4 0 0 σ 88 [some (.ref (ad E l0)), some (.int l1), none, none] [] := by
  unfold DX3_scanWord_88 at h
  refine x_aload_n (pc := 88) C dX3_scanWord_88 rfl rfl ?_
  refine x_dup (pc := 89) C dX3_scanWord_89 rfl ?_
  obtain ⟨k, h⟩ := chk_s h
  refine x_getI (pc := 90) C fX3_15 rfl k dX3_scanWord_90 ?_
  refine x_iconst (v := 1) (pc := 93) C dX3_scanWord_93 (by decide) ?_
  refine x_iadd (pc := 94) C dX3_scanWord_94 ?_
  obtain ⟨k, h⟩ := chk_s h
  obtain ⟨σ1, e1, h⟩ := wlet_s h
  refine x_putI (pc := 95) C pX3_15 rfl k dX3_scanWord_95 (x_eq e1 ?_)
  refine x_goto (tgt := 10) (pc := 98) C dX3_scanWord_98 (by decide) ?_
  exact x_sub (hK10 _ _ _ h) (xLe_s (xLe_s (xLe_n (xLe_n xLe_0))))
def DX3_scanWord_168 (K129 : Nat → Int32 → Int32 → Sg → Option (Unit × Sg)) (l0 : Nat) (l2 : Int32) (l3 : Int32) (σ : Sg) : Option (Unit × Sg) :=
  K129 l0 l2 (l3 + (1 : Int32)) σ
theorem tX3_scanWord_168 {r : Unit} {σ' : Sg} (C : Cx E p s m args meth c RX3 cX3_scanWord 4) (hr : meth.sig.returnType = none) {K129 : Nat → Int32 → Int32 → Sg → Option (Unit × Sg)} (hK129 : ∀ (l0 : Nat) (l2 : Int32) (l3 : Int32) (σ : Sg), K129 l0 l2 l3 σ = some (r, σ') → Y E p l e (rmA 1 0 0) s m args below meth c none σ' 0 0 4 0 0 σ 129 [some (.ref (ad E l0)), none, some (.int l2), some (.int l3)] []) {l0 : Nat} {l2 : Int32} {l3 : Int32} {σ : Sg} (h : DX3_scanWord_168 K129 l0 l2 l3 σ = some (r, σ')) : Y E p l e (rmA 1 0 0) s m args below meth c none σ' 0 0 4 0 0 σ 168 [some (.ref (ad E l0)), none, some (.int l2), some (.int l3)] [] := by
  unfold DX3_scanWord_168 at h
  refine x_iinc (v := 1) (M := [some _, none, some _, some _]) (pc := 168) C dX3_scanWord_168 rfl (by decide) (by decide) rfl ?_
  refine x_goto (tgt := 129) (pc := 171) C dX3_scanWord_171 (by decide) ?_
  exact x_sub (hK129 _ _ _ _ h) (xLe_s (xLe_n (xLe_s (xLe_s xLe_0))))
def DX3_scanWord_174 (σ : Sg) : Option (Unit × Sg) :=
  some ((), σ)
theorem tX3_scanWord_174 {r : Unit} {σ' : Sg} (C : Cx E p s m args meth c RX3 cX3_scanWord 4) (hr : meth.sig.returnType = none) {σ : Sg} (h : DX3_scanWord_174  σ = some (r, σ')) : Y E p l e (rmA 1 0 0) s m args below meth c none σ' 0 0 4 0 0 σ 174 [none, none, none, none] [] := by
  unfold DX3_scanWord_174 at h
  cases h
  exact x_vret C hr dX3_scanWord_174
def DX3_scanWord_129 : Nat → Nat → Int32 → Int32 → Sg → Option (Unit × Sg)
  | 0, _, _, _, _ => none
  | n + 1, l0, l2, l3, σ =>
    if (20 : Int32) ≤ l3 then
      DX3_scanWord_174 σ
    else
      if (7 : Int32) < l2 then
        DX3_scanWord_168 (DX3_scanWord_129 n) l0 l2 l3 σ
      else
        chk (inb l3 20) <|
        chk (ckT (1000 + l3.toNatClampNeg)) <|
        chk (ckO σ 2 l0) <|
        if (tokC.getD ((1000 + l3.toNatClampNeg) - 1000) 0) = (gJ σ l0 6) then
          chk (inb l3 20) <|
          chk (ckO σ 2 l0) <|
          chk (ckV (1000 + l3.toNatClampNeg)) <|
          wlet (pR σ l0 4 (1000 + l3.toNatClampNeg)) fun σ1 =>
          DX3_scanWord_168 (DX3_scanWord_129 n) l0 l2 l3 σ1
        else
          DX3_scanWord_168 (DX3_scanWord_129 n) l0 l2 l3 σ
theorem tX3_scanWord_129 {r : Unit} {σ' : Sg} (C : Cx E p s m args meth c RX3 cX3_scanWord 4) (hr : meth.sig.returnType = none) : ∀ (n : Nat) (l0 : Nat) (l2 : Int32) (l3 : Int32) (σ : Sg) (h : DX3_scanWord_129 n l0 l2 l3 σ = some (r, σ')), Y E p l e (rmA 1 0 0) s m args below meth c none σ' 0 0 4 0 0 σ 129 [some (.ref (ad E l0)), none, some (.int l2), some (.int l3)] [] := by
  intro n
  induction n with
  | zero => intro l0 l2 l3 σ h; cases h
  | succ n ih =>
    intro l0 l2 l3 σ h
    unfold DX3_scanWord_129 at h
    refine x_iload_n (pc := 129) C dX3_scanWord_129 rfl rfl ?_
    refine x_getToks (pc := 130) C gX3_85 dX3_scanWord_130 ?_
    refine x_alenTok (pc := 133) C dX3_scanWord_133 ?_
    refine x_icmp_ge (pc := 134) (tgt := 174) C dX3_scanWord_134 (by decide) (fun q => ?_) (fun q => ?_)
    · rw [if_pos q] at h
      exact x_sub (tX3_scanWord_174 C hr h) (xLe_n (xLe_n (xLe_n (xLe_n xLe_0))))
    · rw [if_neg q] at h
      refine x_iload_n (pc := 137) C dX3_scanWord_137 rfl rfl ?_
      refine x_bipush (v := 7) (pc := 138) C dX3_scanWord_138 (by decide) ?_
      refine x_icmp_gt (pc := 140) (tgt := 168) C dX3_scanWord_140 (by decide) (fun q => ?_) (fun q => ?_)
      · rw [if_pos q] at h
        exact x_sub (tX3_scanWord_168 C hr ih h) (xLe_s (xLe_n (xLe_s (xLe_s xLe_0))))
      · rw [if_neg q] at h
        refine x_getToks (pc := 143) C gX3_85 dX3_scanWord_143 ?_
        refine x_iload_n (pc := 146) C dX3_scanWord_146 rfl rfl ?_
        obtain ⟨k, h⟩ := chk_s h
        refine x_aaldTok (pc := 147) C k dX3_scanWord_147 ?_
        obtain ⟨k, h⟩ := chk_s h
        refine x_tokCode (pc := 148) C k gX3_89 dX3_scanWord_148 ?_
        refine x_aload_n (pc := 151) C dX3_scanWord_151 rfl rfl ?_
        obtain ⟨k, h⟩ := chk_s h
        refine x_getJ (pc := 152) C fX3_30 rfl k dX3_scanWord_152 ?_
        refine x_lcmp (pc := 155) C dX3_scanWord_155 ?_
        refine x_lif_ne (pc := 156) (tgt := 168) C dX3_scanWord_156 (by decide) (fun q => ?_) (fun q => ?_)
        · rw [if_pos q] at h
          refine x_aload_n (pc := 159) C dX3_scanWord_159 rfl rfl ?_
          refine x_getToks (pc := 160) C gX3_85 dX3_scanWord_160 ?_
          refine x_iload_n (pc := 163) C dX3_scanWord_163 rfl rfl ?_
          obtain ⟨k, h⟩ := chk_s h
          refine x_aaldTok (pc := 164) C k dX3_scanWord_164 ?_
          obtain ⟨k, h⟩ := chk_s h
          have k2 := k
          obtain ⟨k, h⟩ := chk_s h
          obtain ⟨σ1, e1, h⟩ := wlet_s h
          refine x_putR (pc := 165) C pX3_24 (Or.inl ⟨_, rfl⟩) k2 k dX3_scanWord_165 (x_eq e1 ?_)
          exact x_sub (tX3_scanWord_168 C hr ih h) (xLe_s (xLe_n (xLe_s (xLe_s xLe_0))))
        · rw [if_neg q] at h
          exact x_sub (tX3_scanWord_168 C hr ih h) (xLe_s (xLe_n (xLe_s (xLe_s xLe_0))))
def DX3_scanWord_124 (l0 : Nat) (l2 : Int32) (s0 : Nat) (s1 : Nat) (σ : Sg) : Option (Unit × Sg) :=
  chk (ckO σ 2 s0) <|
  chk (ckV s1) <|
  wlet (pR σ s0 4 s1) fun σ1 =>
  DX3_scanWord_129 FU l0 l2 (0 : Int32) σ1
theorem tX3_scanWord_124 {r : Unit} {σ' : Sg} (C : Cx E p s m args meth c RX3 cX3_scanWord 4) (hr : meth.sig.returnType = none) {l0 : Nat} {l2 : Int32} {s0 : Nat} {s1 : Nat} {σ : Sg} (h : DX3_scanWord_124 l0 l2 s0 s1 σ = some (r, σ')) : Y E p l e (rmA 1 0 0) s m args below meth c none σ' 0 0 4 0 0 σ 124 [some (.ref (ad E l0)), none, some (.int l2), none] [.ref (ad E s1), .ref (ad E s0)] := by
  unfold DX3_scanWord_124 at h
  obtain ⟨k, h⟩ := chk_s h
  have k2 := k
  obtain ⟨k, h⟩ := chk_s h
  obtain ⟨σ1, e1, h⟩ := wlet_s h
  refine x_putR (pc := 124) C pX3_24 (Or.inl ⟨_, rfl⟩) k2 k dX3_scanWord_124 (x_eq e1 ?_)
  refine x_iconst (v := 0) (pc := 127) C dX3_scanWord_127 (by decide) ?_
  refine x_istore_n (M := [some _, none, some _, some _]) (pc := 128) C dX3_scanWord_128 rfl (by decide) rfl ?_
  exact x_sub (tX3_scanWord_129 C hr FU _ _ _ _ h) (xLe_s (xLe_n (xLe_s (xLe_s xLe_0))))
def DX3_scanWord_101 (l0 : Nat) (l1 : Int32) (σ : Sg) : Option (Unit × Sg) :=
  chk (ckO σ 2 l0) <|
  if ((gI σ l0 3) - l1) ≤ (6 : Int32) then
    DX3_scanWord_124 l0 ((gI σ l0 3) - l1) l0 1004 σ
  else
    DX3_scanWord_124 l0 ((gI σ l0 3) - l1) l0 1001 σ
theorem tX3_scanWord_101 {r : Unit} {σ' : Sg} (C : Cx E p s m args meth c RX3 cX3_scanWord 4) (hr : meth.sig.returnType = none) {l0 : Nat} {l1 : Int32} {σ : Sg} (h : DX3_scanWord_101 l0 l1 σ = some (r, σ')) : Y E p l e (rmA 1 0 0) s m args below meth c none σ' 0 0 4 0 0 σ 101 [some (.ref (ad E l0)), some (.int l1), none, none] [] := by
  unfold DX3_scanWord_101 at h
  refine x_aload_n (pc := 101) C dX3_scanWord_101 rfl rfl ?_
  obtain ⟨k, h⟩ := chk_s h
  refine x_getI (pc := 102) C fX3_15 rfl k dX3_scanWord_102 ?_
  refine x_iload_n (pc := 105) C dX3_scanWord_105 rfl rfl ?_
  refine x_isub (pc := 106) C dX3_scanWord_106 ?_
  refine x_istore_n (M := [some _, some _, some _, none]) (pc := 107) C dX3_scanWord_107 rfl (by decide) rfl ?_
  refine x_aload_n (pc := 108) C dX3_scanWord_108 rfl rfl ?_
  refine x_iload_n (pc := 109) C dX3_scanWord_109 rfl rfl ?_
  refine x_bipush (v := 6) (pc := 110) C dX3_scanWord_110 (by decide) ?_
  refine x_icmp_le (pc := 112) (tgt := 121) C dX3_scanWord_112 (by decide) (fun q => ?_) (fun q => ?_)
  · rw [if_pos q] at h
    refine x_getTok (pc := 121) C 4 (by decide) gX3_82 dX3_scanWord_121 ?_
    exact x_sub (tX3_scanWord_124 C hr h) (xLe_s (xLe_n (xLe_s (xLe_n xLe_0))))
  · rw [if_neg q] at h
    refine x_getTok (pc := 115) C 1 (by decide) gX3_77 dX3_scanWord_115 ?_
    refine x_goto (tgt := 124) (pc := 118) C dX3_scanWord_118 (by decide) ?_
    exact x_sub (tX3_scanWord_124 C hr h) (xLe_s (xLe_n (xLe_s (xLe_n xLe_0))))
def DX3_scanWord_10 : Nat → Nat → Int32 → Sg → Option (Unit × Sg)
  | 0, _, _, _ => none
  | n + 1, l0, l1, σ =>
    chk (ckO σ 2 l0) <|
    chk (ckO σ 2 l0) <|
    if (gI σ l0 2) ≤ (gI σ l0 3) then
      DX3_scanWord_101 l0 l1 σ
    else
      chk (ckO σ 2 l0) <|
      chk (ckV (gR σ l0 0)) <|
      chk (ckO σ 2 l0) <|
      chk (ckI σ (gR σ l0 0) (gI σ l0 3)) <|
      if (aI σ (gR σ l0 0) (gI σ l0 3).toNatClampNeg) < (97 : Int32) then
        DX3_scanWord_101 l0 l1 σ
      else
        chk (ckO σ 2 l0) <|
        chk (ckV (gR σ l0 0)) <|
        chk (ckO σ 2 l0) <|
        chk (ckI σ (gR σ l0 0) (gI σ l0 3)) <|
        if (122 : Int32) < (aI σ (gR σ l0 0) (gI σ l0 3).toNatClampNeg) then
          DX3_scanWord_101 l0 l1 σ
        else
          chk (ckO σ 2 l0) <|
          if (7 : Int32) ≤ ((gI σ l0 3) - l1) then
            DX3_scanWord_88 (DX3_scanWord_10 n) l0 l1 σ
          else
            chk (ckO σ 2 l0) <|
            chk (ckO σ 2 l0) <|
            chk (ckV (gR σ l0 0)) <|
            chk (ckO σ 2 l0) <|
            chk (ckI σ (gR σ l0 0) (gI σ l0 3)) <|
            chk (ckO σ 2 l0) <|
            wlet (pJ σ l0 6 (((gJ σ l0 6) * (27 : Int64)) + ((((aI σ (gR σ l0 0) (gI σ l0 3).toNatClampNeg) - (97 : Int32)) + (1 : Int32)).toInt64))) fun σ1 =>
            DX3_scanWord_88 (DX3_scanWord_10 n) l0 l1 σ1
theorem tX3_scanWord_10 {r : Unit} {σ' : Sg} (C : Cx E p s m args meth c RX3 cX3_scanWord 4) (hr : meth.sig.returnType = none) : ∀ (n : Nat) (l0 : Nat) (l1 : Int32) (σ : Sg) (h : DX3_scanWord_10 n l0 l1 σ = some (r, σ')), Y E p l e (rmA 1 0 0) s m args below meth c none σ' 0 0 4 0 0 σ 10 [some (.ref (ad E l0)), some (.int l1), none, none] [] := by
  intro n
  induction n with
  | zero => intro l0 l1 σ h; cases h
  | succ n ih =>
    intro l0 l1 σ h
    unfold DX3_scanWord_10 at h
    refine x_aload_n (pc := 10) C dX3_scanWord_10 rfl rfl ?_
    obtain ⟨k, h⟩ := chk_s h
    refine x_getI (pc := 11) C fX3_15 rfl k dX3_scanWord_11 ?_
    refine x_aload_n (pc := 14) C dX3_scanWord_14 rfl rfl ?_
    obtain ⟨k, h⟩ := chk_s h
    refine x_getI (pc := 15) C fX3_9 rfl k dX3_scanWord_15 ?_
    refine x_icmp_ge (pc := 18) (tgt := 101) C dX3_scanWord_18 (by decide) (fun q => ?_) (fun q => ?_)
    · rw [if_pos q] at h
      exact x_sub (tX3_scanWord_101 C hr h) (xLe_s (xLe_s (xLe_n (xLe_n xLe_0))))
    · rw [if_neg q] at h
      refine x_aload_n (pc := 21) C dX3_scanWord_21 rfl rfl ?_
      obtain ⟨k, h⟩ := chk_s h
      have k2 := k
      obtain ⟨k, h⟩ := chk_s h
      refine x_getR (pc := 22) C fX3_46 rfl k2 k dX3_scanWord_22 ?_
      refine x_aload_n (pc := 25) C dX3_scanWord_25 rfl rfl ?_
      obtain ⟨k, h⟩ := chk_s h
      refine x_getI (pc := 26) C fX3_15 rfl k dX3_scanWord_26 ?_
      obtain ⟨k, h⟩ := chk_s h
      refine x_iald (pc := 29) C k dX3_scanWord_29 ?_
      refine x_bipush (v := 97) (pc := 30) C dX3_scanWord_30 (by decide) ?_
      refine x_icmp_lt (pc := 32) (tgt := 101) C dX3_scanWord_32 (by decide) (fun q => ?_) (fun q => ?_)
      · rw [if_pos q] at h
        exact x_sub (tX3_scanWord_101 C hr h) (xLe_s (xLe_s (xLe_n (xLe_n xLe_0))))
      · rw [if_neg q] at h
        refine x_aload_n (pc := 35) C dX3_scanWord_35 rfl rfl ?_
        obtain ⟨k, h⟩ := chk_s h
        have k2 := k
        obtain ⟨k, h⟩ := chk_s h
        refine x_getR (pc := 36) C fX3_46 rfl k2 k dX3_scanWord_36 ?_
        refine x_aload_n (pc := 39) C dX3_scanWord_39 rfl rfl ?_
        obtain ⟨k, h⟩ := chk_s h
        refine x_getI (pc := 40) C fX3_15 rfl k dX3_scanWord_40 ?_
        obtain ⟨k, h⟩ := chk_s h
        refine x_iald (pc := 43) C k dX3_scanWord_43 ?_
        refine x_bipush (v := 122) (pc := 44) C dX3_scanWord_44 (by decide) ?_
        refine x_icmp_gt (pc := 46) (tgt := 101) C dX3_scanWord_46 (by decide) (fun q => ?_) (fun q => ?_)
        · rw [if_pos q] at h
          exact x_sub (tX3_scanWord_101 C hr h) (xLe_s (xLe_s (xLe_n (xLe_n xLe_0))))
        · rw [if_neg q] at h
          refine x_aload_n (pc := 49) C dX3_scanWord_49 rfl rfl ?_
          obtain ⟨k, h⟩ := chk_s h
          refine x_getI (pc := 50) C fX3_15 rfl k dX3_scanWord_50 ?_
          refine x_iload_n (pc := 53) C dX3_scanWord_53 rfl rfl ?_
          refine x_isub (pc := 54) C dX3_scanWord_54 ?_
          refine x_bipush (v := 7) (pc := 55) C dX3_scanWord_55 (by decide) ?_
          refine x_icmp_ge (pc := 57) (tgt := 88) C dX3_scanWord_57 (by decide) (fun q => ?_) (fun q => ?_)
          · rw [if_pos q] at h
            exact x_sub (tX3_scanWord_88 C hr ih h) (xLe_s (xLe_s (xLe_n (xLe_n xLe_0))))
          · rw [if_neg q] at h
            refine x_aload_n (pc := 60) C dX3_scanWord_60 rfl rfl ?_
            refine x_aload_n (pc := 61) C dX3_scanWord_61 rfl rfl ?_
            obtain ⟨k, h⟩ := chk_s h
            refine x_getJ (pc := 62) C fX3_30 rfl k dX3_scanWord_62 ?_
            refine x_ldc2_w (pc := 65) C kX3_80 dX3_scanWord_65 ?_
            refine x_lmul (pc := 68) C dX3_scanWord_68 ?_
            refine x_aload_n (pc := 69) C dX3_scanWord_69 rfl rfl ?_
            obtain ⟨k, h⟩ := chk_s h
            have k2 := k
            obtain ⟨k, h⟩ := chk_s h
            refine x_getR (pc := 70) C fX3_46 rfl k2 k dX3_scanWord_70 ?_
            refine x_aload_n (pc := 73) C dX3_scanWord_73 rfl rfl ?_
            obtain ⟨k, h⟩ := chk_s h
            refine x_getI (pc := 74) C fX3_15 rfl k dX3_scanWord_74 ?_
            obtain ⟨k, h⟩ := chk_s h
            refine x_iald (pc := 77) C k dX3_scanWord_77 ?_
            refine x_bipush (v := 97) (pc := 78) C dX3_scanWord_78 (by decide) ?_
            refine x_isub (pc := 80) C dX3_scanWord_80 ?_
            refine x_iconst (v := 1) (pc := 81) C dX3_scanWord_81 (by decide) ?_
            refine x_iadd (pc := 82) C dX3_scanWord_82 ?_
            refine x_i2l (pc := 83) C dX3_scanWord_83 ?_
            refine x_ladd (pc := 84) C dX3_scanWord_84 ?_
            obtain ⟨k, h⟩ := chk_s h
            obtain ⟨σ1, e1, h⟩ := wlet_s h
            refine x_putJ (pc := 85) C pX3_30 rfl k dX3_scanWord_85 (x_eq e1 ?_)
            exact x_sub (tX3_scanWord_88 C hr ih h) (xLe_s (xLe_s (xLe_n (xLe_n xLe_0))))
def DX3_scanWord (l0 : Nat) (σ : Sg) : Option (Unit × Sg) :=
  chk (ckO σ 2 l0) <|
  chk (ckO σ 2 l0) <|
  wlet (pJ σ l0 6 (0 : Int64)) fun σ1 =>
  DX3_scanWord_10 FU l0 (gI σ l0 3) σ1
theorem mX3_scanWord (E : Ev) (l : Launch) {l0 : Nat} {σ : Sg} {r : Unit} {σ' : Sg} (h : DX3_scanWord l0 σ = some (r, σ')) : Mt E l yX3_scanWord cX3_scanWord 4 none 1 0 0 [.ref (ad E l0)] σ none σ' := by
  refine Mt.ofX (by decide) (Nat.le_of_ble_eq_true rfl) (L0 := [some (.ref (ad E l0)), none, none, none]) (xEntN_ok [.ref (ad E l0)] 4) (fun p e s m args below meth c C hr hn => ?_)
  unfold DX3_scanWord at h
  refine x_aload_n (pc := 0) C dX3_scanWord_0 rfl rfl ?_
  obtain ⟨k, h⟩ := chk_s h
  refine x_getI (pc := 1) C fX3_15 rfl k dX3_scanWord_1 ?_
  refine x_istore_n (M := [some _, some _, none, none]) (pc := 4) C dX3_scanWord_4 rfl (by decide) rfl ?_
  refine x_aload_n (pc := 5) C dX3_scanWord_5 rfl rfl ?_
  refine x_lconst (v := 0) (pc := 6) C dX3_scanWord_6 (by decide) ?_
  obtain ⟨k, h⟩ := chk_s h
  obtain ⟨σ1, e1, h⟩ := wlet_s h
  refine x_putJ (pc := 7) C pX3_30 rfl k dX3_scanWord_7 (x_eq e1 ?_)
  exact x_sub (tX3_scanWord_10 C hr FU _ _ _ h) (xLe_s (xLe_s (xLe_n (xLe_n xLe_0))))
def DX3_scanNumber_84 (K12 : Nat → Sg → Option (Unit × Sg)) (l0 : Nat) (σ : Sg) : Option (Unit × Sg) :=
  chk (ckO σ 2 l0) <|
  chk (ckO σ 2 l0) <|
  wlet (pI σ l0 3 ((gI σ l0 3) + (1 : Int32))) fun σ1 =>
  K12 l0 σ1
theorem tX3_scanNumber_84 {r : Unit} {σ' : Sg} (C : Cx E p s m args meth c RX3 cX3_scanNumber 1) (hr : meth.sig.returnType = none) {K12 : Nat → Sg → Option (Unit × Sg)} (hK12 : ∀ (l0 : Nat) (σ : Sg), K12 l0 σ = some (r, σ') → Y E p l e (rmA 1 0 0) s m args below meth c none σ' 0 0 1 0 0 σ 12 [some (.ref (ad E l0))] []) {l0 : Nat} {σ : Sg} (h : DX3_scanNumber_84 K12 l0 σ = some (r, σ')) : Y E p l e (rmA 1 0 0) s m args below meth c none σ' 0 0 1 0 0 σ 84 [some (.ref (ad E l0))] [] := by
  unfold DX3_scanNumber_84 at h
  refine x_aload_n (pc := 84) C dX3_scanNumber_84 rfl rfl ?_
  refine x_dup (pc := 85) C dX3_scanNumber_85 rfl ?_
  obtain ⟨k, h⟩ := chk_s h
  refine x_getI (pc := 86) C fX3_15 rfl k dX3_scanNumber_86 ?_
  refine x_iconst (v := 1) (pc := 89) C dX3_scanNumber_89 (by decide) ?_
  refine x_iadd (pc := 90) C dX3_scanNumber_90 ?_
  obtain ⟨k, h⟩ := chk_s h
  obtain ⟨σ1, e1, h⟩ := wlet_s h
  refine x_putI (pc := 91) C pX3_15 rfl k dX3_scanNumber_91 (x_eq e1 ?_)
  refine x_goto (tgt := 12) (pc := 94) C dX3_scanNumber_94 (by decide) ?_
  exact x_sub (hK12 _ _ h) (xLe_s xLe_0)
def DX3_scanNumber_97 (σ : Sg) : Option (Unit × Sg) :=
  some ((), σ)
theorem tX3_scanNumber_97 {r : Unit} {σ' : Sg} (C : Cx E p s m args meth c RX3 cX3_scanNumber 1) (hr : meth.sig.returnType = none) {σ : Sg} (h : DX3_scanNumber_97  σ = some (r, σ')) : Y E p l e (rmA 1 0 0) s m args below meth c none σ' 0 0 1 0 0 σ 97 [none] [] := by
  unfold DX3_scanNumber_97 at h
  cases h
  exact x_vret C hr dX3_scanNumber_97
def DX3_scanNumber_12 : Nat → Nat → Sg → Option (Unit × Sg)
  | 0, _, _ => none
  | n + 1, l0, σ =>
    chk (ckO σ 2 l0) <|
    chk (ckO σ 2 l0) <|
    if (gI σ l0 2) ≤ (gI σ l0 3) then
      DX3_scanNumber_97 σ
    else
      chk (ckO σ 2 l0) <|
      chk (ckV (gR σ l0 0)) <|
      chk (ckO σ 2 l0) <|
      chk (ckI σ (gR σ l0 0) (gI σ l0 3)) <|
      if (aI σ (gR σ l0 0) (gI σ l0 3).toNatClampNeg) < (48 : Int32) then
        DX3_scanNumber_97 σ
      else
        chk (ckO σ 2 l0) <|
        chk (ckV (gR σ l0 0)) <|
        chk (ckO σ 2 l0) <|
        chk (ckI σ (gR σ l0 0) (gI σ l0 3)) <|
        if (57 : Int32) < (aI σ (gR σ l0 0) (gI σ l0 3).toNatClampNeg) then
          DX3_scanNumber_97 σ
        else
          chk (ckO σ 2 l0) <|
          if (100000000 : Int32) ≤ (gI σ l0 7) then
            DX3_scanNumber_84 (DX3_scanNumber_12 n) l0 σ
          else
            chk (ckO σ 2 l0) <|
            chk (ckO σ 2 l0) <|
            chk (ckV (gR σ l0 0)) <|
            chk (ckO σ 2 l0) <|
            chk (ckI σ (gR σ l0 0) (gI σ l0 3)) <|
            chk (ckO σ 2 l0) <|
            wlet (pI σ l0 7 (((gI σ l0 7) * (10 : Int32)) + ((aI σ (gR σ l0 0) (gI σ l0 3).toNatClampNeg) - (48 : Int32)))) fun σ1 =>
            DX3_scanNumber_84 (DX3_scanNumber_12 n) l0 σ1
theorem tX3_scanNumber_12 {r : Unit} {σ' : Sg} (C : Cx E p s m args meth c RX3 cX3_scanNumber 1) (hr : meth.sig.returnType = none) : ∀ (n : Nat) (l0 : Nat) (σ : Sg) (h : DX3_scanNumber_12 n l0 σ = some (r, σ')), Y E p l e (rmA 1 0 0) s m args below meth c none σ' 0 0 1 0 0 σ 12 [some (.ref (ad E l0))] [] := by
  intro n
  induction n with
  | zero => intro l0 σ h; cases h
  | succ n ih =>
    intro l0 σ h
    unfold DX3_scanNumber_12 at h
    refine x_aload_n (pc := 12) C dX3_scanNumber_12 rfl rfl ?_
    obtain ⟨k, h⟩ := chk_s h
    refine x_getI (pc := 13) C fX3_15 rfl k dX3_scanNumber_13 ?_
    refine x_aload_n (pc := 16) C dX3_scanNumber_16 rfl rfl ?_
    obtain ⟨k, h⟩ := chk_s h
    refine x_getI (pc := 17) C fX3_9 rfl k dX3_scanNumber_17 ?_
    refine x_icmp_ge (pc := 20) (tgt := 97) C dX3_scanNumber_20 (by decide) (fun q => ?_) (fun q => ?_)
    · rw [if_pos q] at h
      exact x_sub (tX3_scanNumber_97 C hr h) (xLe_n xLe_0)
    · rw [if_neg q] at h
      refine x_aload_n (pc := 23) C dX3_scanNumber_23 rfl rfl ?_
      obtain ⟨k, h⟩ := chk_s h
      have k2 := k
      obtain ⟨k, h⟩ := chk_s h
      refine x_getR (pc := 24) C fX3_46 rfl k2 k dX3_scanNumber_24 ?_
      refine x_aload_n (pc := 27) C dX3_scanNumber_27 rfl rfl ?_
      obtain ⟨k, h⟩ := chk_s h
      refine x_getI (pc := 28) C fX3_15 rfl k dX3_scanNumber_28 ?_
      obtain ⟨k, h⟩ := chk_s h
      refine x_iald (pc := 31) C k dX3_scanNumber_31 ?_
      refine x_bipush (v := 48) (pc := 32) C dX3_scanNumber_32 (by decide) ?_
      refine x_icmp_lt (pc := 34) (tgt := 97) C dX3_scanNumber_34 (by decide) (fun q => ?_) (fun q => ?_)
      · rw [if_pos q] at h
        exact x_sub (tX3_scanNumber_97 C hr h) (xLe_n xLe_0)
      · rw [if_neg q] at h
        refine x_aload_n (pc := 37) C dX3_scanNumber_37 rfl rfl ?_
        obtain ⟨k, h⟩ := chk_s h
        have k2 := k
        obtain ⟨k, h⟩ := chk_s h
        refine x_getR (pc := 38) C fX3_46 rfl k2 k dX3_scanNumber_38 ?_
        refine x_aload_n (pc := 41) C dX3_scanNumber_41 rfl rfl ?_
        obtain ⟨k, h⟩ := chk_s h
        refine x_getI (pc := 42) C fX3_15 rfl k dX3_scanNumber_42 ?_
        obtain ⟨k, h⟩ := chk_s h
        refine x_iald (pc := 45) C k dX3_scanNumber_45 ?_
        refine x_bipush (v := 57) (pc := 46) C dX3_scanNumber_46 (by decide) ?_
        refine x_icmp_gt (pc := 48) (tgt := 97) C dX3_scanNumber_48 (by decide) (fun q => ?_) (fun q => ?_)
        · rw [if_pos q] at h
          exact x_sub (tX3_scanNumber_97 C hr h) (xLe_n xLe_0)
        · rw [if_neg q] at h
          refine x_aload_n (pc := 51) C dX3_scanNumber_51 rfl rfl ?_
          obtain ⟨k, h⟩ := chk_s h
          refine x_getI (pc := 52) C fX3_34 rfl k dX3_scanNumber_52 ?_
          refine x_ldc (pc := 55) C kX3_95 dX3_scanNumber_55 ?_
          refine x_icmp_ge (pc := 57) (tgt := 84) C dX3_scanNumber_57 (by decide) (fun q => ?_) (fun q => ?_)
          · rw [if_pos q] at h
            exact x_sub (tX3_scanNumber_84 C hr ih h) (xLe_s xLe_0)
          · rw [if_neg q] at h
            refine x_aload_n (pc := 60) C dX3_scanNumber_60 rfl rfl ?_
            refine x_aload_n (pc := 61) C dX3_scanNumber_61 rfl rfl ?_
            obtain ⟨k, h⟩ := chk_s h
            refine x_getI (pc := 62) C fX3_34 rfl k dX3_scanNumber_62 ?_
            refine x_bipush (v := 10) (pc := 65) C dX3_scanNumber_65 (by decide) ?_
            refine x_imul (pc := 67) C dX3_scanNumber_67 ?_
            refine x_aload_n (pc := 68) C dX3_scanNumber_68 rfl rfl ?_
            obtain ⟨k, h⟩ := chk_s h
            have k2 := k
            obtain ⟨k, h⟩ := chk_s h
            refine x_getR (pc := 69) C fX3_46 rfl k2 k dX3_scanNumber_69 ?_
            refine x_aload_n (pc := 72) C dX3_scanNumber_72 rfl rfl ?_
            obtain ⟨k, h⟩ := chk_s h
            refine x_getI (pc := 73) C fX3_15 rfl k dX3_scanNumber_73 ?_
            obtain ⟨k, h⟩ := chk_s h
            refine x_iald (pc := 76) C k dX3_scanNumber_76 ?_
            refine x_bipush (v := 48) (pc := 77) C dX3_scanNumber_77 (by decide) ?_
            refine x_isub (pc := 79) C dX3_scanNumber_79 ?_
            refine x_iadd (pc := 80) C dX3_scanNumber_80 ?_
            obtain ⟨k, h⟩ := chk_s h
            obtain ⟨σ1, e1, h⟩ := wlet_s h
            refine x_putI (pc := 81) C pX3_34 rfl k dX3_scanNumber_81 (x_eq e1 ?_)
            exact x_sub (tX3_scanNumber_84 C hr ih h) (xLe_s xLe_0)
def DX3_scanNumber (l0 : Nat) (σ : Sg) : Option (Unit × Sg) :=
  chk (ckO σ 2 l0) <|
  chk (ckV 1003) <|
  wlet (pR σ l0 4 1003) fun σ1 =>
  chk (ckO σ1 2 l0) <|
  wlet (pI σ1 l0 7 (0 : Int32)) fun σ2 =>
  DX3_scanNumber_12 FU l0 σ2
theorem mX3_scanNumber (E : Ev) (l : Launch) {l0 : Nat} {σ : Sg} {r : Unit} {σ' : Sg} (h : DX3_scanNumber l0 σ = some (r, σ')) : Mt E l yX3_scanNumber cX3_scanNumber 1 none 1 0 0 [.ref (ad E l0)] σ none σ' := by
  refine Mt.ofX (by decide) (Nat.le_of_ble_eq_true rfl) (L0 := [some (.ref (ad E l0))]) (xEntN_ok [.ref (ad E l0)] 1) (fun p e s m args below meth c C hr hn => ?_)
  unfold DX3_scanNumber at h
  refine x_aload_n (pc := 0) C dX3_scanNumber_0 rfl rfl ?_
  refine x_getTok (pc := 1) C 3 (by decide) gX3_92 dX3_scanNumber_1 ?_
  obtain ⟨k, h⟩ := chk_s h
  have k2 := k
  obtain ⟨k, h⟩ := chk_s h
  obtain ⟨σ1, e1, h⟩ := wlet_s h
  refine x_putR (pc := 4) C pX3_24 (Or.inl ⟨_, rfl⟩) k2 k dX3_scanNumber_4 (x_eq e1 ?_)
  refine x_aload_n (pc := 7) C dX3_scanNumber_7 rfl rfl ?_
  refine x_iconst (v := 0) (pc := 8) C dX3_scanNumber_8 (by decide) ?_
  obtain ⟨k, h⟩ := chk_s h
  obtain ⟨σ2, e1, h⟩ := wlet_s h
  refine x_putI (pc := 9) C pX3_34 rfl k dX3_scanNumber_9 (x_eq e1 ?_)
  exact x_sub (tX3_scanNumber_12 C hr FU _ _ h) (xLe_s xLe_0)
def DX3_step_47 (K8 : Nat → Sg → Option (Unit × Sg)) (l0 : Nat) (σ : Sg) : Option (Unit × Sg) :=
  chk (ckO σ 2 l0) <|
  chk (ckO σ 2 l0) <|
  wlet (pI σ l0 3 ((gI σ l0 3) + (1 : Int32))) fun σ1 =>
  K8 l0 σ1
theorem tX3_step_47 {r : Unit} {σ' : Sg} (C : Cx E p s m args meth c RX3 cX3_step 1) (hr : meth.sig.returnType = none) {K8 : Nat → Sg → Option (Unit × Sg)} (hK8 : ∀ (l0 : Nat) (σ : Sg), K8 l0 σ = some (r, σ') → Y E p l e (rmA 2 0 0) s m args below meth c none σ' 0 0 1 0 0 σ 8 [some (.ref (ad E l0))] []) {l0 : Nat} {σ : Sg} (h : DX3_step_47 K8 l0 σ = some (r, σ')) : Y E p l e (rmA 2 0 0) s m args below meth c none σ' 0 0 1 0 0 σ 47 [some (.ref (ad E l0))] [] := by
  unfold DX3_step_47 at h
  refine x_aload_n (pc := 47) C dX3_step_47 rfl rfl ?_
  refine x_dup (pc := 48) C dX3_step_48 rfl ?_
  obtain ⟨k, h⟩ := chk_s h
  refine x_getI (pc := 49) C fX3_15 rfl k dX3_step_49 ?_
  refine x_iconst (v := 1) (pc := 52) C dX3_step_52 (by decide) ?_
  refine x_iadd (pc := 53) C dX3_step_53 ?_
  obtain ⟨k, h⟩ := chk_s h
  obtain ⟨σ1, e1, h⟩ := wlet_s h
  refine x_putI (pc := 54) C pX3_15 rfl k dX3_step_54 (x_eq e1 ?_)
  refine x_goto (tgt := 8) (pc := 57) C dX3_step_57 (by decide) ?_
  exact x_sub (hK8 _ _ h) (xLe_s xLe_0)
def DX3_step_196 (σ : Sg) : Option (Unit × Sg) :=
  some ((), σ)
theorem tX3_step_196 {r : Unit} {σ' : Sg} (C : Cx E p s m args meth c RX3 cX3_step 1) (hr : meth.sig.returnType = none) {σ : Sg} (h : DX3_step_196  σ = some (r, σ')) : Y E p l e (rmA 2 0 0) s m args below meth c none σ' 0 0 1 0 0 σ 196 [none] [] := by
  unfold DX3_step_196 at h
  cases h
  exact x_vret C hr dX3_step_196
def DX3_step_183 (l0 : Nat) (s0 : Nat) (s1 : Nat) (σ : Sg) : Option (Unit × Sg) :=
  chk (ckO σ 2 s0) <|
  chk (ckV s1) <|
  wlet (pR σ s0 4 s1) fun σ1 =>
  chk (ckO σ1 2 l0) <|
  chk (ckO σ1 2 l0) <|
  wlet (pI σ1 l0 3 ((gI σ1 l0 3) + (1 : Int32))) fun σ2 =>
  DX3_step_196 σ2
theorem tX3_step_183 {r : Unit} {σ' : Sg} (C : Cx E p s m args meth c RX3 cX3_step 1) (hr : meth.sig.returnType = none) {l0 : Nat} {s0 : Nat} {s1 : Nat} {σ : Sg} (h : DX3_step_183 l0 s0 s1 σ = some (r, σ')) : Y E p l e (rmA 2 0 0) s m args below meth c none σ' 0 0 1 0 0 σ 183 [some (.ref (ad E l0))] [.ref (ad E s1), .ref (ad E s0)] := by
  unfold DX3_step_183 at h
  obtain ⟨k, h⟩ := chk_s h
  have k2 := k
  obtain ⟨k, h⟩ := chk_s h
  obtain ⟨σ1, e1, h⟩ := wlet_s h
  refine x_putR (pc := 183) C pX3_24 (Or.inl ⟨_, rfl⟩) k2 k dX3_step_183 (x_eq e1 ?_)
  refine x_aload_n (pc := 186) C dX3_step_186 rfl rfl ?_
  refine x_dup (pc := 187) C dX3_step_187 rfl ?_
  obtain ⟨k, h⟩ := chk_s h
  refine x_getI (pc := 188) C fX3_15 rfl k dX3_step_188 ?_
  refine x_iconst (v := 1) (pc := 191) C dX3_step_191 (by decide) ?_
  refine x_iadd (pc := 192) C dX3_step_192 ?_
  obtain ⟨k, h⟩ := chk_s h
  obtain ⟨σ2, e1, h⟩ := wlet_s h
  refine x_putI (pc := 193) C pX3_15 rfl k dX3_step_193 (x_eq e1 ?_)
  exact x_sub (tX3_step_196 C hr h) (xLe_n xLe_0)
def DX3_step_159 (l0 : Nat) (σ : Sg) : Option (Unit × Sg) :=
  chk (ckO σ 2 l0) <|
  chk (ckV (gR σ l0 0)) <|
  chk (ckO σ 2 l0) <|
  chk (ckI σ (gR σ l0 0) (gI σ l0 3)) <|
  if (aI σ (gR σ l0 0) (gI σ l0 3).toNatClampNeg) = (59 : Int32) then
    DX3_step_183 l0 l0 1002 σ
  else
    DX3_step_183 l0 l0 1001 σ
theorem tX3_step_159 {r : Unit} {σ' : Sg} (C : Cx E p s m args meth c RX3 cX3_step 1) (hr : meth.sig.returnType = none) {l0 : Nat} {σ : Sg} (h : DX3_step_159 l0 σ = some (r, σ')) : Y E p l e (rmA 2 0 0) s m args below meth c none σ' 0 0 1 0 0 σ 159 [some (.ref (ad E l0))] [] := by
  unfold DX3_step_159 at h
  refine x_aload_n (pc := 159) C dX3_step_159 rfl rfl ?_
  refine x_aload_n (pc := 160) C dX3_step_160 rfl rfl ?_
  obtain ⟨k, h⟩ := chk_s h
  have k2 := k
  obtain ⟨k, h⟩ := chk_s h
  refine x_getR (pc := 161) C fX3_46 rfl k2 k dX3_step_161 ?_
  refine x_aload_n (pc := 164) C dX3_step_164 rfl rfl ?_
  obtain ⟨k, h⟩ := chk_s h
  refine x_getI (pc := 165) C fX3_15 rfl k dX3_step_165 ?_
  obtain ⟨k, h⟩ := chk_s h
  refine x_iald (pc := 168) C k dX3_step_168 ?_
  refine x_bipush (v := 59) (pc := 169) C dX3_step_169 (by decide) ?_
  refine x_icmp_ne (pc := 171) (tgt := 180) C dX3_step_171 (by decide) (fun q => ?_) (fun q => ?_)
  · rw [if_pos q] at h
    refine x_getTok (pc := 174) C 2 (by decide) gX3_74 dX3_step_174 ?_
    refine x_goto (tgt := 183) (pc := 177) C dX3_step_177 (by decide) ?_
    exact x_sub (tX3_step_183 C hr h) (xLe_s xLe_0)
  · rw [if_neg q] at h
    refine x_getTok (pc := 180) C 1 (by decide) gX3_77 dX3_step_180 ?_
    exact x_sub (tX3_step_183 C hr h) (xLe_s xLe_0)
def DX3_step_124 (l0 : Nat) (σ : Sg) : Option (Unit × Sg) :=
  chk (ckO σ 2 l0) <|
  chk (ckV (gR σ l0 0)) <|
  chk (ckO σ 2 l0) <|
  chk (ckI σ (gR σ l0 0) (gI σ l0 3)) <|
  if (aI σ (gR σ l0 0) (gI σ l0 3).toNatClampNeg) < (48 : Int32) then
    DX3_step_159 l0 σ
  else
    chk (ckO σ 2 l0) <|
    chk (ckV (gR σ l0 0)) <|
    chk (ckO σ 2 l0) <|
    chk (ckI σ (gR σ l0 0) (gI σ l0 3)) <|
    if (57 : Int32) < (aI σ (gR σ l0 0) (gI σ l0 3).toNatClampNeg) then
      DX3_step_159 l0 σ
    else
      chk (ckO σ 2 l0) <|
      bnd (DX3_scanNumber l0 σ) fun _ σ1 =>
      DX3_step_196 σ1
theorem tX3_step_124 {r : Unit} {σ' : Sg} (C : Cx E p s m args meth c RX3 cX3_step 1) (hr : meth.sig.returnType = none) {l0 : Nat} {σ : Sg} (h : DX3_step_124 l0 σ = some (r, σ')) : Y E p l e (rmA 2 0 0) s m args below meth c none σ' 0 0 1 0 0 σ 124 [some (.ref (ad E l0))] [] := by
  unfold DX3_step_124 at h
  refine x_aload_n (pc := 124) C dX3_step_124 rfl rfl ?_
  obtain ⟨k, h⟩ := chk_s h
  have k2 := k
  obtain ⟨k, h⟩ := chk_s h
  refine x_getR (pc := 125) C fX3_46 rfl k2 k dX3_step_125 ?_
  refine x_aload_n (pc := 128) C dX3_step_128 rfl rfl ?_
  obtain ⟨k, h⟩ := chk_s h
  refine x_getI (pc := 129) C fX3_15 rfl k dX3_step_129 ?_
  obtain ⟨k, h⟩ := chk_s h
  refine x_iald (pc := 132) C k dX3_step_132 ?_
  refine x_bipush (v := 48) (pc := 133) C dX3_step_133 (by decide) ?_
  refine x_icmp_lt (pc := 135) (tgt := 159) C dX3_step_135 (by decide) (fun q => ?_) (fun q => ?_)
  · rw [if_pos q] at h
    exact x_sub (tX3_step_159 C hr h) (xLe_s xLe_0)
  · rw [if_neg q] at h
    refine x_aload_n (pc := 138) C dX3_step_138 rfl rfl ?_
    obtain ⟨k, h⟩ := chk_s h
    have k2 := k
    obtain ⟨k, h⟩ := chk_s h
    refine x_getR (pc := 139) C fX3_46 rfl k2 k dX3_step_139 ?_
    refine x_aload_n (pc := 142) C dX3_step_142 rfl rfl ?_
    obtain ⟨k, h⟩ := chk_s h
    refine x_getI (pc := 143) C fX3_15 rfl k dX3_step_143 ?_
    obtain ⟨k, h⟩ := chk_s h
    refine x_iald (pc := 146) C k dX3_step_146 ?_
    refine x_bipush (v := 57) (pc := 147) C dX3_step_147 (by decide) ?_
    refine x_icmp_gt (pc := 149) (tgt := 159) C dX3_step_149 (by decide) (fun q => ?_) (fun q => ?_)
    · rw [if_pos q] at h
      exact x_sub (tX3_step_159 C hr h) (xLe_s xLe_0)
    · rw [if_neg q] at h
      refine x_aload_n (pc := 152) C dX3_step_152 rfl rfl ?_
      obtain ⟨k, h⟩ := chk_s h
      have k2 := k
      obtain ⟨u0, σ1, k, h⟩ := bnd_s h
      refine x_callV0 (pc := 153) C (mX3_scanNumber E l k) cl2 k2 cX3_71 nX3_scanNumber sX3_scanNumber rfl rfl (Nat.le_of_ble_eq_true rfl) ⟨Nat.le_of_ble_eq_true rfl, Nat.le_of_ble_eq_true rfl, Nat.le_of_ble_eq_true rfl, Nat.le_of_ble_eq_true rfl⟩ dX3_step_153 ?_
      refine x_goto (tgt := 196) (pc := 156) C dX3_step_156 (by decide) ?_
      exact x_sub (tX3_step_196 C hr h) (xLe_n xLe_0)
def DX3_step_60 (l0 : Nat) (σ : Sg) : Option (Unit × Sg) :=
  chk (ckO σ 2 l0) <|
  chk (ckO σ 2 l0) <|
  wlet (pI σ l0 5 (gI σ l0 3)) fun σ1 =>
  chk (ckO σ1 2 l0) <|
  chk (ckO σ1 2 l0) <|
  if (gI σ1 l0 3) < (gI σ1 l0 2) then
    chk (ckO σ1 2 l0) <|
    chk (ckV (gR σ1 l0 0)) <|
    chk (ckO σ1 2 l0) <|
    chk (ckI σ1 (gR σ1 l0 0) (gI σ1 l0 3)) <|
    if (aI σ1 (gR σ1 l0 0) (gI σ1 l0 3).toNatClampNeg) < (97 : Int32) then
      DX3_step_124 l0 σ1
    else
      chk (ckO σ1 2 l0) <|
      chk (ckV (gR σ1 l0 0)) <|
      chk (ckO σ1 2 l0) <|
      chk (ckI σ1 (gR σ1 l0 0) (gI σ1 l0 3)) <|
      if (122 : Int32) < (aI σ1 (gR σ1 l0 0) (gI σ1 l0 3).toNatClampNeg) then
        DX3_step_124 l0 σ1
      else
        chk (ckO σ1 2 l0) <|
        bnd (DX3_scanWord l0 σ1) fun _ σ2 =>
        DX3_step_196 σ2
  else
    chk (ckO σ1 2 l0) <|
    chk (ckV 1000) <|
    wlet (pR σ1 l0 4 1000) fun σ3 =>
    DX3_step_196 σ3
theorem tX3_step_60 {r : Unit} {σ' : Sg} (C : Cx E p s m args meth c RX3 cX3_step 1) (hr : meth.sig.returnType = none) {l0 : Nat} {σ : Sg} (h : DX3_step_60 l0 σ = some (r, σ')) : Y E p l e (rmA 2 0 0) s m args below meth c none σ' 0 0 1 0 0 σ 60 [some (.ref (ad E l0))] [] := by
  unfold DX3_step_60 at h
  refine x_aload_n (pc := 60) C dX3_step_60 rfl rfl ?_
  refine x_aload_n (pc := 61) C dX3_step_61 rfl rfl ?_
  obtain ⟨k, h⟩ := chk_s h
  refine x_getI (pc := 62) C fX3_15 rfl k dX3_step_62 ?_
  obtain ⟨k, h⟩ := chk_s h
  obtain ⟨σ1, e1, h⟩ := wlet_s h
  refine x_putI (pc := 65) C pX3_27 rfl k dX3_step_65 (x_eq e1 ?_)
  refine x_aload_n (pc := 68) C dX3_step_68 rfl rfl ?_
  obtain ⟨k, h⟩ := chk_s h
  refine x_getI (pc := 69) C fX3_15 rfl k dX3_step_69 ?_
  refine x_aload_n (pc := 72) C dX3_step_72 rfl rfl ?_
  obtain ⟨k, h⟩ := chk_s h
  refine x_getI (pc := 73) C fX3_9 rfl k dX3_step_73 ?_
  refine x_icmp_lt (pc := 76) (tgt := 89) C dX3_step_76 (by decide) (fun q => ?_) (fun q => ?_)
  · rw [if_pos q] at h
    refine x_aload_n (pc := 89) C dX3_step_89 rfl rfl ?_
    obtain ⟨k, h⟩ := chk_s h
    have k2 := k
    obtain ⟨k, h⟩ := chk_s h
    refine x_getR (pc := 90) C fX3_46 rfl k2 k dX3_step_90 ?_
    refine x_aload_n (pc := 93) C dX3_step_93 rfl rfl ?_
    obtain ⟨k, h⟩ := chk_s h
    refine x_getI (pc := 94) C fX3_15 rfl k dX3_step_94 ?_
    obtain ⟨k, h⟩ := chk_s h
    refine x_iald (pc := 97) C k dX3_step_97 ?_
    refine x_bipush (v := 97) (pc := 98) C dX3_step_98 (by decide) ?_
    refine x_icmp_lt (pc := 100) (tgt := 124) C dX3_step_100 (by decide) (fun q => ?_) (fun q => ?_)
    · rw [if_pos q] at h
      exact x_sub (tX3_step_124 C hr h) (xLe_s xLe_0)
    · rw [if_neg q] at h
      refine x_aload_n (pc := 103) C dX3_step_103 rfl rfl ?_
      obtain ⟨k, h⟩ := chk_s h
      have k2 := k
      obtain ⟨k, h⟩ := chk_s h
      refine x_getR (pc := 104) C fX3_46 rfl k2 k dX3_step_104 ?_
      refine x_aload_n (pc := 107) C dX3_step_107 rfl rfl ?_
      obtain ⟨k, h⟩ := chk_s h
      refine x_getI (pc := 108) C fX3_15 rfl k dX3_step_108 ?_
      obtain ⟨k, h⟩ := chk_s h
      refine x_iald (pc := 111) C k dX3_step_111 ?_
      refine x_bipush (v := 122) (pc := 112) C dX3_step_112 (by decide) ?_
      refine x_icmp_gt (pc := 114) (tgt := 124) C dX3_step_114 (by decide) (fun q => ?_) (fun q => ?_)
      · rw [if_pos q] at h
        exact x_sub (tX3_step_124 C hr h) (xLe_s xLe_0)
      · rw [if_neg q] at h
        refine x_aload_n (pc := 117) C dX3_step_117 rfl rfl ?_
        obtain ⟨k, h⟩ := chk_s h
        have k2 := k
        obtain ⟨u0, σ2, k, h⟩ := bnd_s h
        refine x_callV0 (pc := 118) C (mX3_scanWord E l k) cl2 k2 cX3_68 nX3_scanWord sX3_scanWord rfl rfl (Nat.le_of_ble_eq_true rfl) ⟨Nat.le_of_ble_eq_true rfl, Nat.le_of_ble_eq_true rfl, Nat.le_of_ble_eq_true rfl, Nat.le_of_ble_eq_true rfl⟩ dX3_step_118 ?_
        refine x_goto (tgt := 196) (pc := 121) C dX3_step_121 (by decide) ?_
        exact x_sub (tX3_step_196 C hr h) (xLe_n xLe_0)
  · rw [if_neg q] at h
    refine x_aload_n (pc := 79) C dX3_step_79 rfl rfl ?_
    refine x_getTok (pc := 80) C 0 (by decide) gX3_18 dX3_step_80 ?_
    obtain ⟨k, h⟩ := chk_s h
    have k2 := k
    obtain ⟨k, h⟩ := chk_s h
    obtain ⟨σ3, e1, h⟩ := wlet_s h
    refine x_putR (pc := 83) C pX3_24 (Or.inl ⟨_, rfl⟩) k2 k dX3_step_83 (x_eq e1 ?_)
    refine x_goto (tgt := 196) (pc := 86) C dX3_step_86 (by decide) ?_
    exact x_sub (tX3_step_196 C hr h) (xLe_n xLe_0)
def DX3_step_8 : Nat → Nat → Sg → Option (Unit × Sg)
  | 0, _, _ => none
  | n + 1, l0, σ =>
    chk (ckO σ 2 l0) <|
    chk (ckO σ 2 l0) <|
    if (gI σ l0 2) ≤ (gI σ l0 3) then
      DX3_step_60 l0 σ
    else
      chk (ckO σ 2 l0) <|
      chk (ckV (gR σ l0 0)) <|
      chk (ckO σ 2 l0) <|
      chk (ckI σ (gR σ l0 0) (gI σ l0 3)) <|
      if (aI σ (gR σ l0 0) (gI σ l0 3).toNatClampNeg) = (32 : Int32) then
        DX3_step_47 (DX3_step_8 n) l0 σ
      else
        chk (ckO σ 2 l0) <|
        chk (ckV (gR σ l0 0)) <|
        chk (ckO σ 2 l0) <|
        chk (ckI σ (gR σ l0 0) (gI σ l0 3)) <|
        if (aI σ (gR σ l0 0) (gI σ l0 3).toNatClampNeg) = (10 : Int32) then
          DX3_step_47 (DX3_step_8 n) l0 σ
        else
          DX3_step_60 l0 σ
theorem tX3_step_8 {r : Unit} {σ' : Sg} (C : Cx E p s m args meth c RX3 cX3_step 1) (hr : meth.sig.returnType = none) : ∀ (n : Nat) (l0 : Nat) (σ : Sg) (h : DX3_step_8 n l0 σ = some (r, σ')), Y E p l e (rmA 2 0 0) s m args below meth c none σ' 0 0 1 0 0 σ 8 [some (.ref (ad E l0))] [] := by
  intro n
  induction n with
  | zero => intro l0 σ h; cases h
  | succ n ih =>
    intro l0 σ h
    unfold DX3_step_8 at h
    refine x_aload_n (pc := 8) C dX3_step_8 rfl rfl ?_
    obtain ⟨k, h⟩ := chk_s h
    refine x_getI (pc := 9) C fX3_15 rfl k dX3_step_9 ?_
    refine x_aload_n (pc := 12) C dX3_step_12 rfl rfl ?_
    obtain ⟨k, h⟩ := chk_s h
    refine x_getI (pc := 13) C fX3_9 rfl k dX3_step_13 ?_
    refine x_icmp_ge (pc := 16) (tgt := 60) C dX3_step_16 (by decide) (fun q => ?_) (fun q => ?_)
    · rw [if_pos q] at h
      exact x_sub (tX3_step_60 C hr h) (xLe_s xLe_0)
    · rw [if_neg q] at h
      refine x_aload_n (pc := 19) C dX3_step_19 rfl rfl ?_
      obtain ⟨k, h⟩ := chk_s h
      have k2 := k
      obtain ⟨k, h⟩ := chk_s h
      refine x_getR (pc := 20) C fX3_46 rfl k2 k dX3_step_20 ?_
      refine x_aload_n (pc := 23) C dX3_step_23 rfl rfl ?_
      obtain ⟨k, h⟩ := chk_s h
      refine x_getI (pc := 24) C fX3_15 rfl k dX3_step_24 ?_
      obtain ⟨k, h⟩ := chk_s h
      refine x_iald (pc := 27) C k dX3_step_27 ?_
      refine x_bipush (v := 32) (pc := 28) C dX3_step_28 (by decide) ?_
      refine x_icmp_eq (pc := 30) (tgt := 47) C dX3_step_30 (by decide) (fun q => ?_) (fun q => ?_)
      · rw [if_pos q] at h
        exact x_sub (tX3_step_47 C hr ih h) (xLe_s xLe_0)
      · rw [if_neg q] at h
        refine x_aload_n (pc := 33) C dX3_step_33 rfl rfl ?_
        obtain ⟨k, h⟩ := chk_s h
        have k2 := k
        obtain ⟨k, h⟩ := chk_s h
        refine x_getR (pc := 34) C fX3_46 rfl k2 k dX3_step_34 ?_
        refine x_aload_n (pc := 37) C dX3_step_37 rfl rfl ?_
        obtain ⟨k, h⟩ := chk_s h
        refine x_getI (pc := 38) C fX3_15 rfl k dX3_step_38 ?_
        obtain ⟨k, h⟩ := chk_s h
        refine x_iald (pc := 41) C k dX3_step_41 ?_
        refine x_bipush (v := 10) (pc := 42) C dX3_step_42 (by decide) ?_
        refine x_icmp_ne (pc := 44) (tgt := 60) C dX3_step_44 (by decide) (fun q => ?_) (fun q => ?_)
        · rw [if_pos q] at h
          exact x_sub (tX3_step_47 C hr ih h) (xLe_s xLe_0)
        · rw [if_neg q] at h
          exact x_sub (tX3_step_60 C hr h) (xLe_s xLe_0)
def DX3_step (l0 : Nat) (σ : Sg) : Option (Unit × Sg) :=
  chk (ckO σ 2 l0) <|
  chk (ckO σ 2 l0) <|
  wlet (pI σ l0 8 (gI σ l0 5)) fun σ1 =>
  DX3_step_8 FU l0 σ1
theorem mX3_step (E : Ev) (l : Launch) {l0 : Nat} {σ : Sg} {r : Unit} {σ' : Sg} (h : DX3_step l0 σ = some (r, σ')) : Mt E l yX3_step cX3_step 1 none 2 0 0 [.ref (ad E l0)] σ none σ' := by
  refine Mt.ofX (by decide) (Nat.le_of_ble_eq_true rfl) (L0 := [some (.ref (ad E l0))]) (xEntN_ok [.ref (ad E l0)] 1) (fun p e s m args below meth c C hr hn => ?_)
  unfold DX3_step at h
  refine x_aload_n (pc := 0) C dX3_step_0 rfl rfl ?_
  refine x_aload_n (pc := 1) C dX3_step_1 rfl rfl ?_
  obtain ⟨k, h⟩ := chk_s h
  refine x_getI (pc := 2) C fX3_27 rfl k dX3_step_2 ?_
  obtain ⟨k, h⟩ := chk_s h
  obtain ⟨σ1, e1, h⟩ := wlet_s h
  refine x_putI (pc := 5) C pX3_37 rfl k dX3_step_5 (x_eq e1 ?_)
  exact x_sub (tX3_step_8 C hr FU _ _ h) (xLe_s xLe_0)
def DX3_open (l0 : Nat) (l1 : Nat) (l2 : Int32) (σ : Sg) : Option (Unit × Sg) :=
  chk (ckO σ 2 l0) <|
  chk (ckV l1) <|
  wlet (pR σ l0 1 l1) fun σ1 =>
  chk (ckO σ1 2 l0) <|
  chk (ckV (gR σ1 l0 1)) <|
  chk (ckO σ1 0 (gR σ1 l0 1)) <|
  bnd (DX1_empty (gR σ1 l0 1) σ1) fun _ σ2 =>
  chk (ckO σ2 2 l0) <|
  chk (ckV (gR σ2 l0 0)) <|
  chk (ckL σ2 (gR σ2 l0 0)) <|
  chk (ckO σ2 2 l0) <|
  wlet (pI σ2 l0 2 (imin l2 (nI (shp (gR σ2 l0 0)).2.1))) fun σ3 =>
  chk (ckO σ3 2 l0) <|
  wlet (pI σ3 l0 3 (0 : Int32)) fun σ4 =>
  chk (ckO σ4 2 l0) <|
  wlet (pI σ4 l0 9 (0 : Int32)) fun σ5 =>
  chk (ckO σ5 2 l0) <|
  wlet (pI σ5 l0 10 (-1 : Int32)) fun σ6 =>
  chk (ckO σ6 2 l0) <|
  bnd (DX3_step l0 σ6) fun _ σ7 =>
  some ((), σ7)
theorem mX3_open (E : Ev) (l : Launch) {l0 : Nat} {l1 : Nat} {l2 : Int32} {σ : Sg} {r : Unit} {σ' : Sg} (h : DX3_open l0 l1 l2 σ = some (r, σ')) : Mt E l yX3_open cX3_open 3 none 3 0 0 [.ref (ad E l0), .ref (ad E l1), .int l2] σ none σ' := by
  refine Mt.ofX (by decide) (Nat.le_of_ble_eq_true rfl) (L0 := [some (.ref (ad E l0)), some (.ref (ad E l1)), some (.int l2)]) (xEntN_ok [.ref (ad E l0), .ref (ad E l1), .int l2] 3) (fun p e s m args below meth c C hr hn => ?_)
  unfold DX3_open at h
  refine x_aload_n (pc := 0) C dX3_open_0 rfl rfl ?_
  refine x_aload_n (pc := 1) C dX3_open_1 rfl rfl ?_
  obtain ⟨k, h⟩ := chk_s h
  have k2 := k
  obtain ⟨k, h⟩ := chk_s h
  obtain ⟨σ1, e1, h⟩ := wlet_s h
  refine x_putR (pc := 2) C pX3_50 (Or.inl ⟨_, rfl⟩) k2 k dX3_open_2 (x_eq e1 ?_)
  refine x_aload_n (pc := 5) C dX3_open_5 rfl rfl ?_
  obtain ⟨k, h⟩ := chk_s h
  have k2 := k
  obtain ⟨k, h⟩ := chk_s h
  refine x_getR (pc := 6) C fX3_50 rfl k2 k dX3_open_6 ?_
  obtain ⟨k, h⟩ := chk_s h
  have k2 := k
  obtain ⟨u0, σ2, k, h⟩ := bnd_s h
  refine x_callV0 (pc := 9) C (mX1_empty E l k) cl0 k2 cX3_54 nX1_empty sX1_empty rfl rfl (Nat.le_of_ble_eq_true rfl) ⟨Nat.le_of_ble_eq_true rfl, Nat.le_of_ble_eq_true rfl, Nat.le_of_ble_eq_true rfl, Nat.le_of_ble_eq_true rfl⟩ dX3_open_9 ?_
  refine x_aload_n (pc := 12) C dX3_open_12 rfl rfl ?_
  refine x_iload_n (pc := 13) C dX3_open_13 rfl rfl ?_
  refine x_aload_n (pc := 14) C dX3_open_14 rfl rfl ?_
  obtain ⟨k, h⟩ := chk_s h
  have k2 := k
  obtain ⟨k, h⟩ := chk_s h
  refine x_getR (pc := 15) C fX3_46 rfl k2 k dX3_open_15 ?_
  obtain ⟨k, h⟩ := chk_s h
  refine x_alen (pc := 18) C k dX3_open_18 ?_
  refine x_mmin (pc := 19) C oX3_59 mmmin1 mmi mmmin2 ⟨Nat.le_of_ble_eq_true rfl, Nat.le_of_ble_eq_true rfl, Nat.le_of_ble_eq_true rfl, Nat.le_of_ble_eq_true rfl⟩ dX3_open_19 ?_
  obtain ⟨k, h⟩ := chk_s h
  obtain ⟨σ3, e1, h⟩ := wlet_s h
  refine x_putI (pc := 22) C pX3_9 rfl k dX3_open_22 (x_eq e1 ?_)
  refine x_aload_n (pc := 25) C dX3_open_25 rfl rfl ?_
  refine x_iconst (v := 0) (pc := 26) C dX3_open_26 (by decide) ?_
  obtain ⟨k, h⟩ := chk_s h
  obtain ⟨σ4, e1, h⟩ := wlet_s h
  refine x_putI (pc := 27) C pX3_15 rfl k dX3_open_27 (x_eq e1 ?_)
  refine x_aload_n (pc := 30) C dX3_open_30 rfl rfl ?_
  refine x_iconst (v := 0) (pc := 31) C dX3_open_31 (by decide) ?_
  obtain ⟨k, h⟩ := chk_s h
  obtain ⟨σ5, e1, h⟩ := wlet_s h
  refine x_putI (pc := 32) C pX3_40 rfl k dX3_open_32 (x_eq e1 ?_)
  refine x_aload_n (pc := 35) C dX3_open_35 rfl rfl ?_
  refine x_iconst (v := -1) (pc := 36) C dX3_open_36 (by decide) ?_
  obtain ⟨k, h⟩ := chk_s h
  obtain ⟨σ6, e1, h⟩ := wlet_s h
  refine x_putI (pc := 37) C pX3_43 rfl k dX3_open_37 (x_eq e1 ?_)
  refine x_aload_n (pc := 40) C dX3_open_40 rfl rfl ?_
  obtain ⟨k, h⟩ := chk_s h
  have k2 := k
  obtain ⟨u0, σ7, k, h⟩ := bnd_s h
  refine x_callV0 (pc := 41) C (mX3_step E l k) cl2 k2 cX3_65 nX3_step sX3_step rfl rfl (Nat.le_of_ble_eq_true rfl) ⟨Nat.le_of_ble_eq_true rfl, Nat.le_of_ble_eq_true rfl, Nat.le_of_ble_eq_true rfl, Nat.le_of_ble_eq_true rfl⟩ dX3_open_41 ?_
  cases h
  exact x_vret C hr dX3_open_44
def DX3_hasLine_15 (s0 : Int32) (σ : Sg) : Option (Int32 × Sg) :=
  chk (ck01 s0) <|
  some (s0, σ)
theorem tX3_hasLine_15 {r : Int32} {σ' : Sg} (C : Cx E p s m args meth c RX3 cX3_hasLine 1) (hr : meth.sig.returnType = (some .boolean)) {s0 : Int32} {σ : Sg} (h : DX3_hasLine_15 s0 σ = some (r, σ')) : Y E p l e (rmA 1 0 0) s m args below meth c (some (.int r)) σ' 0 0 1 0 0 σ 15 [none] [.int s0] := by
  unfold DX3_hasLine_15 at h
  obtain ⟨kz, h⟩ := chk_s h
  cases h
  exact x_zret C hr (nar_01 kz) dX3_hasLine_15
def DX3_hasLine (l0 : Nat) (σ : Sg) : Option (Int32 × Sg) :=
  chk (ckO σ 2 l0) <|
  chk (ckV (gR σ l0 4)) <|
  chk (ckT (gR σ l0 4) && ckT 1000) <|
  if (gR σ l0 4) = 1000 then
    DX3_hasLine_15 (0 : Int32) σ
  else
    DX3_hasLine_15 (1 : Int32) σ
theorem mX3_hasLine (E : Ev) (l : Launch) {l0 : Nat} {σ : Sg} {r : Int32} {σ' : Sg} (h : DX3_hasLine l0 σ = some (r, σ')) : Mt E l yX3_hasLine cX3_hasLine 1 (some .boolean) 1 0 0 [.ref (ad E l0)] σ (some (.int r)) σ' := by
  refine Mt.ofX (by decide) (Nat.le_of_ble_eq_true rfl) (L0 := [some (.ref (ad E l0))]) (xEntN_ok [.ref (ad E l0)] 1) (fun p e s m args below meth c C hr hn => ?_)
  unfold DX3_hasLine at h
  refine x_aload_n (pc := 0) C dX3_hasLine_0 rfl rfl ?_
  obtain ⟨k, h⟩ := chk_s h
  have k2 := k
  obtain ⟨k, h⟩ := chk_s h
  refine x_getR (pc := 1) C fX3_24 rfl k2 k dX3_hasLine_1 ?_
  refine x_getTok (pc := 4) C 0 (by decide) gX3_18 dX3_hasLine_4 ?_
  obtain ⟨k, h⟩ := chk_s h
  refine x_tcmp_eq (pc := 7) (tgt := 14) C k dX3_hasLine_7 (by decide) (fun q => ?_) (fun q => ?_)
  · rw [if_pos q] at h
    refine x_iconst (v := 0) (pc := 14) C dX3_hasLine_14 (by decide) ?_
    exact x_sub (tX3_hasLine_15 C hr h) (xLe_n xLe_0)
  · rw [if_neg q] at h
    refine x_iconst (v := 1) (pc := 10) C dX3_hasLine_10 (by decide) ?_
    refine x_goto (tgt := 15) (pc := 11) C dX3_hasLine_11 (by decide) ?_
    exact x_sub (tX3_hasLine_15 C hr h) (xLe_n xLe_0)
def DX3_failAt (l0 : Nat) (l1 : Int32) (l2 : Int32) (σ : Sg) : Option (Int32 × Sg) :=
  chk (ckO σ 2 l0) <|
  wlet (pI σ l0 9 l2) fun σ1 =>
  chk (ckO σ1 2 l0) <|
  wlet (pI σ1 l0 10 l1) fun σ2 =>
  chk (ck01 (0 : Int32)) <|
  some ((0 : Int32), σ2)
theorem mX3_failAt (E : Ev) (l : Launch) {l0 : Nat} {l1 : Int32} {l2 : Int32} {σ : Sg} {r : Int32} {σ' : Sg} (h : DX3_failAt l0 l1 l2 σ = some (r, σ')) : Mt E l yX3_failAt cX3_failAt 3 (some .boolean) 1 0 0 [.ref (ad E l0), .int l1, .int l2] σ (some (.int r)) σ' := by
  refine Mt.ofX (by decide) (Nat.le_of_ble_eq_true rfl) (L0 := [some (.ref (ad E l0)), some (.int l1), some (.int l2)]) (xEntN_ok [.ref (ad E l0), .int l1, .int l2] 3) (fun p e s m args below meth c C hr hn => ?_)
  unfold DX3_failAt at h
  refine x_aload_n (pc := 0) C dX3_failAt_0 rfl rfl ?_
  refine x_iload_n (pc := 1) C dX3_failAt_1 rfl rfl ?_
  obtain ⟨k, h⟩ := chk_s h
  obtain ⟨σ1, e1, h⟩ := wlet_s h
  refine x_putI (pc := 2) C pX3_40 rfl k dX3_failAt_2 (x_eq e1 ?_)
  refine x_aload_n (pc := 5) C dX3_failAt_5 rfl rfl ?_
  refine x_iload_n (pc := 6) C dX3_failAt_6 rfl rfl ?_
  obtain ⟨k, h⟩ := chk_s h
  obtain ⟨σ2, e1, h⟩ := wlet_s h
  refine x_putI (pc := 7) C pX3_43 rfl k dX3_failAt_7 (x_eq e1 ?_)
  refine x_iconst (v := 0) (pc := 10) C dX3_failAt_10 (by decide) ?_
  obtain ⟨kz, h⟩ := chk_s h
  cases h
  exact x_zret C hr (nar_01 kz) dX3_failAt_11
def DX3_failHere (l0 : Nat) (l1 : Int32) (σ : Sg) : Option (Int32 × Sg) :=
  chk (ckO σ 2 l0) <|
  chk (ckO σ 2 l0) <|
  bnd (DX3_failAt l0 (gI σ l0 5) l1 σ) fun v1 σ2 =>
  chk (ck01 v1) <|
  some (v1, σ2)
theorem mX3_failHere (E : Ev) (l : Launch) {l0 : Nat} {l1 : Int32} {σ : Sg} {r : Int32} {σ' : Sg} (h : DX3_failHere l0 l1 σ = some (r, σ')) : Mt E l yX3_failHere cX3_failHere 2 (some .boolean) 2 0 0 [.ref (ad E l0), .int l1] σ (some (.int r)) σ' := by
  refine Mt.ofX (by decide) (Nat.le_of_ble_eq_true rfl) (L0 := [some (.ref (ad E l0)), some (.int l1)]) (xEntN_ok [.ref (ad E l0), .int l1] 2) (fun p e s m args below meth c C hr hn => ?_)
  unfold DX3_failHere at h
  refine x_aload_n (pc := 0) C dX3_failHere_0 rfl rfl ?_
  refine x_aload_n (pc := 1) C dX3_failHere_1 rfl rfl ?_
  obtain ⟨k, h⟩ := chk_s h
  refine x_getI (pc := 2) C fX3_27 rfl k dX3_failHere_2 ?_
  refine x_iload_n (pc := 5) C dX3_failHere_5 rfl rfl ?_
  obtain ⟨k, h⟩ := chk_s h
  have k2 := k
  obtain ⟨v1, σ2, k, h⟩ := bnd_s h
  refine x_callV1 (pc := 6) C (mX3_failAt E l k) cl2 k2 cX3_96 nX3_failAt sX3_failAt rfl rfl (Nat.le_of_ble_eq_true rfl) ⟨Nat.le_of_ble_eq_true rfl, Nat.le_of_ble_eq_true rfl, Nat.le_of_ble_eq_true rfl, Nat.le_of_ble_eq_true rfl⟩ dX3_failHere_6 ?_
  obtain ⟨kz, h⟩ := chk_s h
  cases h
  exact x_zret C hr (nar_01 kz) dX3_failHere_9
def DX3_failTaken (l0 : Nat) (l1 : Int32) (σ : Sg) : Option (Int32 × Sg) :=
  chk (ckO σ 2 l0) <|
  chk (ckO σ 2 l0) <|
  bnd (DX3_failAt l0 (gI σ l0 8) l1 σ) fun v1 σ2 =>
  chk (ck01 v1) <|
  some (v1, σ2)
theorem mX3_failTaken (E : Ev) (l : Launch) {l0 : Nat} {l1 : Int32} {σ : Sg} {r : Int32} {σ' : Sg} (h : DX3_failTaken l0 l1 σ = some (r, σ')) : Mt E l yX3_failTaken cX3_failTaken 2 (some .boolean) 2 0 0 [.ref (ad E l0), .int l1] σ (some (.int r)) σ' := by
  refine Mt.ofX (by decide) (Nat.le_of_ble_eq_true rfl) (L0 := [some (.ref (ad E l0)), some (.int l1)]) (xEntN_ok [.ref (ad E l0), .int l1] 2) (fun p e s m args below meth c C hr hn => ?_)
  unfold DX3_failTaken at h
  refine x_aload_n (pc := 0) C dX3_failTaken_0 rfl rfl ?_
  refine x_aload_n (pc := 1) C dX3_failTaken_1 rfl rfl ?_
  obtain ⟨k, h⟩ := chk_s h
  refine x_getI (pc := 2) C fX3_37 rfl k dX3_failTaken_2 ?_
  refine x_iload_n (pc := 5) C dX3_failTaken_5 rfl rfl ?_
  obtain ⟨k, h⟩ := chk_s h
  have k2 := k
  obtain ⟨v1, σ2, k, h⟩ := bnd_s h
  refine x_callV1 (pc := 6) C (mX3_failAt E l k) cl2 k2 cX3_96 nX3_failAt sX3_failAt rfl rfl (Nat.le_of_ble_eq_true rfl) ⟨Nat.le_of_ble_eq_true rfl, Nat.le_of_ble_eq_true rfl, Nat.le_of_ble_eq_true rfl, Nat.le_of_ble_eq_true rfl⟩ dX3_failTaken_6 ?_
  obtain ⟨kz, h⟩ := chk_s h
  cases h
  exact x_zret C hr (nar_01 kz) dX3_failTaken_9
def DX3_takeNewName (l0 : Nat) (σ : Sg) : Option (Int64 × Sg) :=
  chk (ckO σ 2 l0) <|
  chk (ckV (gR σ l0 4)) <|
  chk (ckT (gR σ l0 4) && ckT 1004) <|
  if (gR σ l0 4) = 1004 then
    chk (ckO σ 2 l0) <|
    chk (ckV (gR σ l0 1)) <|
    chk (ckO σ 2 l0) <|
    chk (ckO σ 0 (gR σ l0 1)) <|
    bnd (DX1_knows (gR σ l0 1) (gJ σ l0 6) σ) fun v1 σ2 =>
    if v1 = 0 then
      chk (ckO σ2 2 l0) <|
      chk (ckO σ2 2 l0) <|
      bnd (DX3_step l0 σ2) fun _ σ3 =>
      some ((gJ σ2 l0 6), σ3)
    else
      chk (ckO σ2 2 l0) <|
      bnd (DX3_failHere l0 (3 : Int32) σ2) fun v4 σ5 =>
      some ((0 : Int64), σ5)
  else
    chk (ckO σ 2 l0) <|
    bnd (DX3_failHere l0 (1 : Int32) σ) fun v6 σ7 =>
    some ((0 : Int64), σ7)
theorem mX3_takeNewName (E : Ev) (l : Launch) {l0 : Nat} {σ : Sg} {r : Int64} {σ' : Sg} (h : DX3_takeNewName l0 σ = some (r, σ')) : Mt E l yX3_takeNewName cX3_takeNewName 3 (some .long) 4 0 0 [.ref (ad E l0)] σ (some (.long r)) σ' := by
  refine Mt.ofX (by decide) (Nat.le_of_ble_eq_true rfl) (L0 := [some (.ref (ad E l0)), none, none]) (xEntN_ok [.ref (ad E l0)] 3) (fun p e s m args below meth c C hr hn => ?_)
  unfold DX3_takeNewName at h
  refine x_aload_n (pc := 0) C dX3_takeNewName_0 rfl rfl ?_
  obtain ⟨k, h⟩ := chk_s h
  have k2 := k
  obtain ⟨k, h⟩ := chk_s h
  refine x_getR (pc := 1) C fX3_24 rfl k2 k dX3_takeNewName_1 ?_
  refine x_getTok (pc := 4) C 4 (by decide) gX3_82 dX3_takeNewName_4 ?_
  obtain ⟨k, h⟩ := chk_s h
  refine x_tcmp_eq (pc := 7) (tgt := 18) C k dX3_takeNewName_7 (by decide) (fun q => ?_) (fun q => ?_)
  · rw [if_pos q] at h
    refine x_aload_n (pc := 18) C dX3_takeNewName_18 rfl rfl ?_
    obtain ⟨k, h⟩ := chk_s h
    have k2 := k
    obtain ⟨k, h⟩ := chk_s h
    refine x_getR (pc := 19) C fX3_50 rfl k2 k dX3_takeNewName_19 ?_
    refine x_aload_n (pc := 22) C dX3_takeNewName_22 rfl rfl ?_
    obtain ⟨k, h⟩ := chk_s h
    refine x_getJ (pc := 23) C fX3_30 rfl k dX3_takeNewName_23 ?_
    obtain ⟨k, h⟩ := chk_s h
    have k2 := k
    obtain ⟨v1, σ2, k, h⟩ := bnd_s h
    refine x_callV1 (pc := 26) C (mX1_knows E l k) cl0 k2 cX3_166 nX1_knows sX1_knows rfl rfl (Nat.le_of_ble_eq_true rfl) ⟨Nat.le_of_ble_eq_true rfl, Nat.le_of_ble_eq_true rfl, Nat.le_of_ble_eq_true rfl, Nat.le_of_ble_eq_true rfl⟩ dX3_takeNewName_26 ?_
    refine x_if_eq (pc := 29) (tgt := 40) C dX3_takeNewName_29 (by decide) (fun q => ?_) (fun q => ?_)
    · rw [if_pos q] at h
      refine x_aload_n (pc := 40) C dX3_takeNewName_40 rfl rfl ?_
      obtain ⟨k, h⟩ := chk_s h
      refine x_getJ (pc := 41) C fX3_30 rfl k dX3_takeNewName_41 ?_
      refine x_lstore_n (M := [some _, some _, none]) (pc := 44) C dX3_takeNewName_44 rfl (by decide) rfl ?_
      refine x_aload_n (pc := 45) C dX3_takeNewName_45 rfl rfl ?_
      obtain ⟨k, h⟩ := chk_s h
      have k2 := k
      obtain ⟨u0, σ3, k, h⟩ := bnd_s h
      refine x_callV0 (pc := 46) C (mX3_step E l k) cl2 k2 cX3_65 nX3_step sX3_step rfl rfl (Nat.le_of_ble_eq_true rfl) ⟨Nat.le_of_ble_eq_true rfl, Nat.le_of_ble_eq_true rfl, Nat.le_of_ble_eq_true rfl, Nat.le_of_ble_eq_true rfl⟩ dX3_takeNewName_46 ?_
      refine x_lload_n (pc := 49) C dX3_takeNewName_49 rfl rfl ?_
      cases h
      exact x_lret C hr dX3_takeNewName_50
    · rw [if_neg q] at h
      refine x_aload_n (pc := 32) C dX3_takeNewName_32 rfl rfl ?_
      refine x_iconst (v := 3) (pc := 33) C dX3_takeNewName_33 (by decide) ?_
      obtain ⟨k, h⟩ := chk_s h
      have k2 := k
      obtain ⟨v4, σ5, k, h⟩ := bnd_s h
      refine x_callV1 (pc := 34) C (mX3_failHere E l k) cl2 k2 cX3_116 nX3_failHere sX3_failHere rfl rfl (Nat.le_of_ble_eq_true rfl) ⟨Nat.le_of_ble_eq_true rfl, Nat.le_of_ble_eq_true rfl, Nat.le_of_ble_eq_true rfl, Nat.le_of_ble_eq_true rfl⟩ dX3_takeNewName_34 ?_
      refine x_pop (pc := 37) C dX3_takeNewName_37 rfl ?_
      refine x_lconst (v := 0) (pc := 38) C dX3_takeNewName_38 (by decide) ?_
      cases h
      exact x_lret C hr dX3_takeNewName_39
  · rw [if_neg q] at h
    refine x_aload_n (pc := 10) C dX3_takeNewName_10 rfl rfl ?_
    refine x_iconst (v := 1) (pc := 11) C dX3_takeNewName_11 (by decide) ?_
    obtain ⟨k, h⟩ := chk_s h
    have k2 := k
    obtain ⟨v6, σ7, k, h⟩ := bnd_s h
    refine x_callV1 (pc := 12) C (mX3_failHere E l k) cl2 k2 cX3_116 nX3_failHere sX3_failHere rfl rfl (Nat.le_of_ble_eq_true rfl) ⟨Nat.le_of_ble_eq_true rfl, Nat.le_of_ble_eq_true rfl, Nat.le_of_ble_eq_true rfl, Nat.le_of_ble_eq_true rfl⟩ dX3_takeNewName_12 ?_
    refine x_pop (pc := 15) C dX3_takeNewName_15 rfl ?_
    refine x_lconst (v := 0) (pc := 16) C dX3_takeNewName_16 (by decide) ?_
    cases h
    exact x_lret C hr dX3_takeNewName_17
def DX3_takeSemicolon (l0 : Nat) (σ : Sg) : Option (Int32 × Sg) :=
  chk (ckO σ 2 l0) <|
  chk (ckV (gR σ l0 4)) <|
  chk (ckT (gR σ l0 4) && ckT 1002) <|
  if (gR σ l0 4) = 1002 then
    chk (ckO σ 2 l0) <|
    chk (ckV (gR σ l0 1)) <|
    chk (ckO σ 0 (gR σ l0 1)) <|
    chk (ckO σ 0 (gR σ l0 1)) <|
    wlet (pI σ (gR σ l0 1) 0 ((gI σ (gR σ l0 1) 0) + (1 : Int32))) fun σ1 =>
    chk (ckO σ1 2 l0) <|
    bnd (DX3_step l0 σ1) fun _ σ2 =>
    chk (ck01 (1 : Int32)) <|
    some ((1 : Int32), σ2)
  else
    chk (ckO σ 2 l0) <|
    bnd (DX3_failHere l0 (1 : Int32) σ) fun v3 σ4 =>
    chk (ck01 v3) <|
    some (v3, σ4)
theorem mX3_takeSemicolon (E : Ev) (l : Launch) {l0 : Nat} {σ : Sg} {r : Int32} {σ' : Sg} (h : DX3_takeSemicolon l0 σ = some (r, σ')) : Mt E l yX3_takeSemicolon cX3_takeSemicolon 1 (some .boolean) 3 0 0 [.ref (ad E l0)] σ (some (.int r)) σ' := by
  refine Mt.ofX (by decide) (Nat.le_of_ble_eq_true rfl) (L0 := [some (.ref (ad E l0))]) (xEntN_ok [.ref (ad E l0)] 1) (fun p e s m args below meth c C hr hn => ?_)
  unfold DX3_takeSemicolon at h
  refine x_aload_n (pc := 0) C dX3_takeSemicolon_0 rfl rfl ?_
  obtain ⟨k, h⟩ := chk_s h
  have k2 := k
  obtain ⟨k, h⟩ := chk_s h
  refine x_getR (pc := 1) C fX3_24 rfl k2 k dX3_takeSemicolon_1 ?_
  refine x_getTok (pc := 4) C 2 (by decide) gX3_74 dX3_takeSemicolon_4 ?_
  obtain ⟨k, h⟩ := chk_s h
  refine x_tcmp_eq (pc := 7) (tgt := 16) C k dX3_takeSemicolon_7 (by decide) (fun q => ?_) (fun q => ?_)
  · rw [if_pos q] at h
    refine x_aload_n (pc := 16) C dX3_takeSemicolon_16 rfl rfl ?_
    obtain ⟨k, h⟩ := chk_s h
    have k2 := k
    obtain ⟨k, h⟩ := chk_s h
    refine x_getR (pc := 17) C fX3_50 rfl k2 k dX3_takeSemicolon_17 ?_
    refine x_dup (pc := 20) C dX3_takeSemicolon_20 rfl ?_
    obtain ⟨k, h⟩ := chk_s h
    refine x_getI (pc := 21) C fX3_163 rfl k dX3_takeSemicolon_21 ?_
    refine x_iconst (v := 1) (pc := 24) C dX3_takeSemicolon_24 (by decide) ?_
    refine x_iadd (pc := 25) C dX3_takeSemicolon_25 ?_
    obtain ⟨k, h⟩ := chk_s h
    obtain ⟨σ1, e1, h⟩ := wlet_s h
    refine x_putI (pc := 26) C pX3_163 rfl k dX3_takeSemicolon_26 (x_eq e1 ?_)
    refine x_aload_n (pc := 29) C dX3_takeSemicolon_29 rfl rfl ?_
    obtain ⟨k, h⟩ := chk_s h
    have k2 := k
    obtain ⟨u0, σ2, k, h⟩ := bnd_s h
    refine x_callV0 (pc := 30) C (mX3_step E l k) cl2 k2 cX3_65 nX3_step sX3_step rfl rfl (Nat.le_of_ble_eq_true rfl) ⟨Nat.le_of_ble_eq_true rfl, Nat.le_of_ble_eq_true rfl, Nat.le_of_ble_eq_true rfl, Nat.le_of_ble_eq_true rfl⟩ dX3_takeSemicolon_30 ?_
    refine x_iconst (v := 1) (pc := 33) C dX3_takeSemicolon_33 (by decide) ?_
    obtain ⟨kz, h⟩ := chk_s h
    cases h
    exact x_zret C hr (nar_01 kz) dX3_takeSemicolon_34
  · rw [if_neg q] at h
    refine x_aload_n (pc := 10) C dX3_takeSemicolon_10 rfl rfl ?_
    refine x_iconst (v := 1) (pc := 11) C dX3_takeSemicolon_11 (by decide) ?_
    obtain ⟨k, h⟩ := chk_s h
    have k2 := k
    obtain ⟨v3, σ4, k, h⟩ := bnd_s h
    refine x_callV1 (pc := 12) C (mX3_failHere E l k) cl2 k2 cX3_116 nX3_failHere sX3_failHere rfl rfl (Nat.le_of_ble_eq_true rfl) ⟨Nat.le_of_ble_eq_true rfl, Nat.le_of_ble_eq_true rfl, Nat.le_of_ble_eq_true rfl, Nat.le_of_ble_eq_true rfl⟩ dX3_takeSemicolon_12 ?_
    obtain ⟨kz, h⟩ := chk_s h
    cases h
    exact x_zret C hr (nar_01 kz) dX3_takeSemicolon_15
def DX3_readPlace (l0 : Nat) (σ : Sg) : Option (Int32 × Sg) :=
  chk (ckO σ 2 l0) <|
  bnd (DX3_step l0 σ) fun _ σ1 =>
  chk (ckO σ1 2 l0) <|
  bnd (DX3_takeNewName l0 σ1) fun v2 σ3 =>
  if v2 = (0 : Int64) then
    chk (ck01 (0 : Int32)) <|
    some ((0 : Int32), σ3)
  else
    chk (ckO σ3 2 l0) <|
    chk (ckV (gR σ3 l0 1)) <|
    chk (ckO σ3 0 (gR σ3 l0 1)) <|
    bnd (DX1_addPlace (gR σ3 l0 1) v2 σ3) fun _ σ4 =>
    chk (ckO σ4 2 l0) <|
    bnd (DX3_takeSemicolon l0 σ4) fun v5 σ6 =>
    chk (ck01 v5) <|
    some (v5, σ6)
theorem mX3_readPlace (E : Ev) (l : Launch) {l0 : Nat} {σ : Sg} {r : Int32} {σ' : Sg} (h : DX3_readPlace l0 σ = some (r, σ')) : Mt E l yX3_readPlace cX3_readPlace 3 (some .boolean) 5 0 0 [.ref (ad E l0)] σ (some (.int r)) σ' := by
  refine Mt.ofX (by decide) (Nat.le_of_ble_eq_true rfl) (L0 := [some (.ref (ad E l0)), none, none]) (xEntN_ok [.ref (ad E l0)] 3) (fun p e s m args below meth c C hr hn => ?_)
  unfold DX3_readPlace at h
  refine x_aload_n (pc := 0) C dX3_readPlace_0 rfl rfl ?_
  obtain ⟨k, h⟩ := chk_s h
  have k2 := k
  obtain ⟨u0, σ1, k, h⟩ := bnd_s h
  refine x_callV0 (pc := 1) C (mX3_step E l k) cl2 k2 cX3_65 nX3_step sX3_step rfl rfl (Nat.le_of_ble_eq_true rfl) ⟨Nat.le_of_ble_eq_true rfl, Nat.le_of_ble_eq_true rfl, Nat.le_of_ble_eq_true rfl, Nat.le_of_ble_eq_true rfl⟩ dX3_readPlace_1 ?_
  refine x_aload_n (pc := 4) C dX3_readPlace_4 rfl rfl ?_
  obtain ⟨k, h⟩ := chk_s h
  have k2 := k
  obtain ⟨v2, σ3, k, h⟩ := bnd_s h
  refine x_callV1 (pc := 5) C (mX3_takeNewName E l k) cl2 k2 cX3_187 nX3_takeNewName sX3_takeNewName rfl rfl (Nat.le_of_ble_eq_true rfl) ⟨Nat.le_of_ble_eq_true rfl, Nat.le_of_ble_eq_true rfl, Nat.le_of_ble_eq_true rfl, Nat.le_of_ble_eq_true rfl⟩ dX3_readPlace_5 ?_
  refine x_lstore_n (M := [some _, some _, none]) (pc := 8) C dX3_readPlace_8 rfl (by decide) rfl ?_
  refine x_lload_n (pc := 9) C dX3_readPlace_9 rfl rfl ?_
  refine x_lconst (v := 0) (pc := 10) C dX3_readPlace_10 (by decide) ?_
  refine x_lcmp (pc := 11) C dX3_readPlace_11 ?_
  refine x_lif_ne (pc := 12) (tgt := 17) C dX3_readPlace_12 (by decide) (fun q => ?_) (fun q => ?_)
  · rw [if_pos q] at h
    refine x_iconst (v := 0) (pc := 15) C dX3_readPlace_15 (by decide) ?_
    obtain ⟨kz, h⟩ := chk_s h
    cases h
    exact x_zret C hr (nar_01 kz) dX3_readPlace_16
  · rw [if_neg q] at h
    refine x_aload_n (pc := 17) C dX3_readPlace_17 rfl rfl ?_
    obtain ⟨k, h⟩ := chk_s h
    have k2 := k
    obtain ⟨k, h⟩ := chk_s h
    refine x_getR (pc := 18) C fX3_50 rfl k2 k dX3_readPlace_18 ?_
    refine x_lload_n (pc := 21) C dX3_readPlace_21 rfl rfl ?_
    obtain ⟨k, h⟩ := chk_s h
    have k2 := k
    obtain ⟨u0, σ4, k, h⟩ := bnd_s h
    refine x_callV0 (pc := 22) C (mX1_addPlace E l k) cl0 k2 cX3_191 nX1_addPlace sX1_addPlace rfl rfl (Nat.le_of_ble_eq_true rfl) ⟨Nat.le_of_ble_eq_true rfl, Nat.le_of_ble_eq_true rfl, Nat.le_of_ble_eq_true rfl, Nat.le_of_ble_eq_true rfl⟩ dX3_readPlace_22 ?_
    refine x_aload_n (pc := 25) C dX3_readPlace_25 rfl rfl ?_
    obtain ⟨k, h⟩ := chk_s h
    have k2 := k
    obtain ⟨v5, σ6, k, h⟩ := bnd_s h
    refine x_callV1 (pc := 26) C (mX3_takeSemicolon E l k) cl2 k2 cX3_195 nX3_takeSemicolon sX3_takeSemicolon rfl rfl (Nat.le_of_ble_eq_true rfl) ⟨Nat.le_of_ble_eq_true rfl, Nat.le_of_ble_eq_true rfl, Nat.le_of_ble_eq_true rfl, Nat.le_of_ble_eq_true rfl⟩ dX3_readPlace_26 ?_
    obtain ⟨kz, h⟩ := chk_s h
    cases h
    exact x_zret C hr (nar_01 kz) dX3_readPlace_29
def DX3_readCarrier (l0 : Nat) (σ : Sg) : Option (Int32 × Sg) :=
  chk (ckO σ 2 l0) <|
  bnd (DX3_step l0 σ) fun _ σ1 =>
  chk (ckO σ1 2 l0) <|
  bnd (DX3_takeNewName l0 σ1) fun v2 σ3 =>
  if v2 = (0 : Int64) then
    chk (ck01 (0 : Int32)) <|
    some ((0 : Int32), σ3)
  else
    chk (ckO σ3 2 l0) <|
    chk (ckV (gR σ3 l0 1)) <|
    chk (ckO σ3 0 (gR σ3 l0 1)) <|
    bnd (DX1_addCarrier (gR σ3 l0 1) v2 σ3) fun _ σ4 =>
    chk (ckO σ4 2 l0) <|
    bnd (DX3_takeSemicolon l0 σ4) fun v5 σ6 =>
    chk (ck01 v5) <|
    some (v5, σ6)
theorem mX3_readCarrier (E : Ev) (l : Launch) {l0 : Nat} {σ : Sg} {r : Int32} {σ' : Sg} (h : DX3_readCarrier l0 σ = some (r, σ')) : Mt E l yX3_readCarrier cX3_readCarrier 3 (some .boolean) 5 0 0 [.ref (ad E l0)] σ (some (.int r)) σ' := by
  refine Mt.ofX (by decide) (Nat.le_of_ble_eq_true rfl) (L0 := [some (.ref (ad E l0)), none, none]) (xEntN_ok [.ref (ad E l0)] 3) (fun p e s m args below meth c C hr hn => ?_)
  unfold DX3_readCarrier at h
  refine x_aload_n (pc := 0) C dX3_readCarrier_0 rfl rfl ?_
  obtain ⟨k, h⟩ := chk_s h
  have k2 := k
  obtain ⟨u0, σ1, k, h⟩ := bnd_s h
  refine x_callV0 (pc := 1) C (mX3_step E l k) cl2 k2 cX3_65 nX3_step sX3_step rfl rfl (Nat.le_of_ble_eq_true rfl) ⟨Nat.le_of_ble_eq_true rfl, Nat.le_of_ble_eq_true rfl, Nat.le_of_ble_eq_true rfl, Nat.le_of_ble_eq_true rfl⟩ dX3_readCarrier_1 ?_
  refine x_aload_n (pc := 4) C dX3_readCarrier_4 rfl rfl ?_
  obtain ⟨k, h⟩ := chk_s h
  have k2 := k
  obtain ⟨v2, σ3, k, h⟩ := bnd_s h
  refine x_callV1 (pc := 5) C (mX3_takeNewName E l k) cl2 k2 cX3_187 nX3_takeNewName sX3_takeNewName rfl rfl (Nat.le_of_ble_eq_true rfl) ⟨Nat.le_of_ble_eq_true rfl, Nat.le_of_ble_eq_true rfl, Nat.le_of_ble_eq_true rfl, Nat.le_of_ble_eq_true rfl⟩ dX3_readCarrier_5 ?_
  refine x_lstore_n (M := [some _, some _, none]) (pc := 8) C dX3_readCarrier_8 rfl (by decide) rfl ?_
  refine x_lload_n (pc := 9) C dX3_readCarrier_9 rfl rfl ?_
  refine x_lconst (v := 0) (pc := 10) C dX3_readCarrier_10 (by decide) ?_
  refine x_lcmp (pc := 11) C dX3_readCarrier_11 ?_
  refine x_lif_ne (pc := 12) (tgt := 17) C dX3_readCarrier_12 (by decide) (fun q => ?_) (fun q => ?_)
  · rw [if_pos q] at h
    refine x_iconst (v := 0) (pc := 15) C dX3_readCarrier_15 (by decide) ?_
    obtain ⟨kz, h⟩ := chk_s h
    cases h
    exact x_zret C hr (nar_01 kz) dX3_readCarrier_16
  · rw [if_neg q] at h
    refine x_aload_n (pc := 17) C dX3_readCarrier_17 rfl rfl ?_
    obtain ⟨k, h⟩ := chk_s h
    have k2 := k
    obtain ⟨k, h⟩ := chk_s h
    refine x_getR (pc := 18) C fX3_50 rfl k2 k dX3_readCarrier_18 ?_
    refine x_lload_n (pc := 21) C dX3_readCarrier_21 rfl rfl ?_
    obtain ⟨k, h⟩ := chk_s h
    have k2 := k
    obtain ⟨u0, σ4, k, h⟩ := bnd_s h
    refine x_callV0 (pc := 22) C (mX1_addCarrier E l k) cl0 k2 cX3_198 nX1_addCarrier sX1_addCarrier rfl rfl (Nat.le_of_ble_eq_true rfl) ⟨Nat.le_of_ble_eq_true rfl, Nat.le_of_ble_eq_true rfl, Nat.le_of_ble_eq_true rfl, Nat.le_of_ble_eq_true rfl⟩ dX3_readCarrier_22 ?_
    refine x_aload_n (pc := 25) C dX3_readCarrier_25 rfl rfl ?_
    obtain ⟨k, h⟩ := chk_s h
    have k2 := k
    obtain ⟨v5, σ6, k, h⟩ := bnd_s h
    refine x_callV1 (pc := 26) C (mX3_takeSemicolon E l k) cl2 k2 cX3_195 nX3_takeSemicolon sX3_takeSemicolon rfl rfl (Nat.le_of_ble_eq_true rfl) ⟨Nat.le_of_ble_eq_true rfl, Nat.le_of_ble_eq_true rfl, Nat.le_of_ble_eq_true rfl, Nat.le_of_ble_eq_true rfl⟩ dX3_readCarrier_26 ?_
    obtain ⟨kz, h⟩ := chk_s h
    cases h
    exact x_zret C hr (nar_01 kz) dX3_readCarrier_29
def DX3_takePlace_36 (l0 : Nat) (σ : Sg) : Option (Int32 × Sg) :=
  chk (ckO σ 2 l0) <|
  bnd (DX3_failHere l0 (1 : Int32) σ) fun v1 σ2 =>
  some ((-1 : Int32), σ2)
theorem tX3_takePlace_36 {r : Int32} {σ' : Sg} (C : Cx E p s m args meth c RX3 cX3_takePlace 3) (hr : meth.sig.returnType = (some .int)) {l0 : Nat} {σ : Sg} (h : DX3_takePlace_36 l0 σ = some (r, σ')) : Y E p l e (rmA 3 0 0) s m args below meth c (some (.int r)) σ' 0 0 3 0 0 σ 36 [some (.ref (ad E l0)), none, none] [] := by
  unfold DX3_takePlace_36 at h
  refine x_aload_n (pc := 36) C dX3_takePlace_36 rfl rfl ?_
  refine x_iconst (v := 1) (pc := 37) C dX3_takePlace_37 (by decide) ?_
  obtain ⟨k, h⟩ := chk_s h
  have k2 := k
  obtain ⟨v1, σ2, k, h⟩ := bnd_s h
  refine x_callV1 (pc := 38) C (mX3_failHere E l k) cl2 k2 cX3_116 nX3_failHere sX3_failHere rfl rfl (Nat.le_of_ble_eq_true rfl) ⟨Nat.le_of_ble_eq_true rfl, Nat.le_of_ble_eq_true rfl, Nat.le_of_ble_eq_true rfl, Nat.le_of_ble_eq_true rfl⟩ dX3_takePlace_38 ?_
  refine x_pop (pc := 41) C dX3_takePlace_41 rfl ?_
  refine x_iconst (v := -1) (pc := 42) C dX3_takePlace_42 (by decide) ?_
  cases h
  exact x_iret C hr dX3_takePlace_43
def DX3_takePlace_25 (l0 : Nat) (l1 : Int32) (s0 : Int32) (σ : Sg) : Option (Int32 × Sg) :=
  if s0 = (-1 : Int32) then
    DX3_takePlace_36 l0 σ
  else
    if s0 = l1 then
      DX3_takePlace_36 l0 σ
    else
      chk (ckO σ 2 l0) <|
      bnd (DX3_step l0 σ) fun _ σ1 =>
      some (s0, σ1)
theorem tX3_takePlace_25 {r : Int32} {σ' : Sg} (C : Cx E p s m args meth c RX3 cX3_takePlace 3) (hr : meth.sig.returnType = (some .int)) {l0 : Nat} {l1 : Int32} {s0 : Int32} {σ : Sg} (h : DX3_takePlace_25 l0 l1 s0 σ = some (r, σ')) : Y E p l e (rmA 3 0 0) s m args below meth c (some (.int r)) σ' 0 0 3 0 0 σ 25 [some (.ref (ad E l0)), some (.int l1), none] [.int s0] := by
  unfold DX3_takePlace_25 at h
  refine x_istore_n (M := [some _, some _, some _]) (pc := 25) C dX3_takePlace_25 rfl (by decide) rfl ?_
  refine x_iload_n (pc := 26) C dX3_takePlace_26 rfl rfl ?_
  refine x_iconst (v := -1) (pc := 27) C dX3_takePlace_27 (by decide) ?_
  refine x_icmp_eq (pc := 28) (tgt := 36) C dX3_takePlace_28 (by decide) (fun q => ?_) (fun q => ?_)
  · rw [if_pos q] at h
    exact x_sub (tX3_takePlace_36 C hr h) (xLe_s (xLe_n (xLe_n xLe_0)))
  · rw [if_neg q] at h
    refine x_iload_n (pc := 31) C dX3_takePlace_31 rfl rfl ?_
    refine x_iload_n (pc := 32) C dX3_takePlace_32 rfl rfl ?_
    refine x_icmp_ne (pc := 33) (tgt := 44) C dX3_takePlace_33 (by decide) (fun q => ?_) (fun q => ?_)
    · rw [if_pos q] at h
      exact x_sub (tX3_takePlace_36 C hr h) (xLe_s (xLe_n (xLe_n xLe_0)))
    · rw [if_neg q] at h
      refine x_aload_n (pc := 44) C dX3_takePlace_44 rfl rfl ?_
      obtain ⟨k, h⟩ := chk_s h
      have k2 := k
      obtain ⟨u0, σ1, k, h⟩ := bnd_s h
      refine x_callV0 (pc := 45) C (mX3_step E l k) cl2 k2 cX3_65 nX3_step sX3_step rfl rfl (Nat.le_of_ble_eq_true rfl) ⟨Nat.le_of_ble_eq_true rfl, Nat.le_of_ble_eq_true rfl, Nat.le_of_ble_eq_true rfl, Nat.le_of_ble_eq_true rfl⟩ dX3_takePlace_45 ?_
      refine x_iload_n (pc := 48) C dX3_takePlace_48 rfl rfl ?_
      cases h
      exact x_iret C hr dX3_takePlace_49
def DX3_takePlace (l0 : Nat) (l1 : Int32) (σ : Sg) : Option (Int32 × Sg) :=
  chk (ckO σ 2 l0) <|
  chk (ckV (gR σ l0 4)) <|
  chk (ckT (gR σ l0 4) && ckT 1004) <|
  if (gR σ l0 4) = 1004 then
    chk (ckO σ 2 l0) <|
    chk (ckV (gR σ l0 1)) <|
    chk (ckO σ 2 l0) <|
    chk (ckO σ 0 (gR σ l0 1)) <|
    bnd (DX1_placeNamed (gR σ l0 1) (gJ σ l0 6) σ) fun v1 σ2 =>
    DX3_takePlace_25 l0 l1 v1 σ2
  else
    DX3_takePlace_25 l0 l1 (-1 : Int32) σ
theorem mX3_takePlace (E : Ev) (l : Launch) {l0 : Nat} {l1 : Int32} {σ : Sg} {r : Int32} {σ' : Sg} (h : DX3_takePlace l0 l1 σ = some (r, σ')) : Mt E l yX3_takePlace cX3_takePlace 3 (some .int) 3 0 0 [.ref (ad E l0), .int l1] σ (some (.int r)) σ' := by
  refine Mt.ofX (by decide) (Nat.le_of_ble_eq_true rfl) (L0 := [some (.ref (ad E l0)), some (.int l1), none]) (xEntN_ok [.ref (ad E l0), .int l1] 3) (fun p e s m args below meth c C hr hn => ?_)
  unfold DX3_takePlace at h
  refine x_aload_n (pc := 0) C dX3_takePlace_0 rfl rfl ?_
  obtain ⟨k, h⟩ := chk_s h
  have k2 := k
  obtain ⟨k, h⟩ := chk_s h
  refine x_getR (pc := 1) C fX3_24 rfl k2 k dX3_takePlace_1 ?_
  refine x_getTok (pc := 4) C 4 (by decide) gX3_82 dX3_takePlace_4 ?_
  obtain ⟨k, h⟩ := chk_s h
  refine x_tcmp_ne (pc := 7) (tgt := 24) C k dX3_takePlace_7 (by decide) (fun q => ?_) (fun q => ?_)
  · rw [if_pos q] at h
    refine x_aload_n (pc := 10) C dX3_takePlace_10 rfl rfl ?_
    obtain ⟨k, h⟩ := chk_s h
    have k2 := k
    obtain ⟨k, h⟩ := chk_s h
    refine x_getR (pc := 11) C fX3_50 rfl k2 k dX3_takePlace_11 ?_
    refine x_aload_n (pc := 14) C dX3_takePlace_14 rfl rfl ?_
    obtain ⟨k, h⟩ := chk_s h
    refine x_getJ (pc := 15) C fX3_30 rfl k dX3_takePlace_15 ?_
    obtain ⟨k, h⟩ := chk_s h
    have k2 := k
    obtain ⟨v1, σ2, k, h⟩ := bnd_s h
    refine x_callV1 (pc := 18) C (mX1_placeNamed E l k) cl0 k2 cX3_170 nX1_placeNamed sX1_placeNamed rfl rfl (Nat.le_of_ble_eq_true rfl) ⟨Nat.le_of_ble_eq_true rfl, Nat.le_of_ble_eq_true rfl, Nat.le_of_ble_eq_true rfl, Nat.le_of_ble_eq_true rfl⟩ dX3_takePlace_18 ?_
    refine x_goto (tgt := 25) (pc := 21) C dX3_takePlace_21 (by decide) ?_
    exact x_sub (tX3_takePlace_25 C hr h) (xLe_s (xLe_s (xLe_n xLe_0)))
  · rw [if_neg q] at h
    refine x_iconst (v := -1) (pc := 24) C dX3_takePlace_24 (by decide) ?_
    exact x_sub (tX3_takePlace_25 C hr h) (xLe_s (xLe_s (xLe_n xLe_0)))
def DX3_takeNumber_34 (l0 : Nat) (σ : Sg) : Option (Int32 × Sg) :=
  chk (ckO σ 2 l0) <|
  bnd (DX3_failHere l0 (2 : Int32) σ) fun v1 σ2 =>
  some ((-1 : Int32), σ2)
theorem tX3_takeNumber_34 {r : Int32} {σ' : Sg} (C : Cx E p s m args meth c RX3 cX3_takeNumber 4) (hr : meth.sig.returnType = (some .int)) {l0 : Nat} {σ : Sg} (h : DX3_takeNumber_34 l0 σ = some (r, σ')) : Y E p l e (rmA 3 0 0) s m args below meth c (some (.int r)) σ' 0 0 4 0 0 σ 34 [some (.ref (ad E l0)), none, none, none] [] := by
  unfold DX3_takeNumber_34 at h
  refine x_aload_n (pc := 34) C dX3_takeNumber_34 rfl rfl ?_
  refine x_iconst (v := 2) (pc := 35) C dX3_takeNumber_35 (by decide) ?_
  obtain ⟨k, h⟩ := chk_s h
  have k2 := k
  obtain ⟨v1, σ2, k, h⟩ := bnd_s h
  refine x_callV1 (pc := 36) C (mX3_failHere E l k) cl2 k2 cX3_116 nX3_failHere sX3_failHere rfl rfl (Nat.le_of_ble_eq_true rfl) ⟨Nat.le_of_ble_eq_true rfl, Nat.le_of_ble_eq_true rfl, Nat.le_of_ble_eq_true rfl, Nat.le_of_ble_eq_true rfl⟩ dX3_takeNumber_36 ?_
  refine x_pop (pc := 39) C dX3_takeNumber_39 rfl ?_
  refine x_iconst (v := -1) (pc := 40) C dX3_takeNumber_40 (by decide) ?_
  cases h
  exact x_iret C hr dX3_takeNumber_41
def DX3_takeNumber (l0 : Nat) (l1 : Int32) (l2 : Int32) (σ : Sg) : Option (Int32 × Sg) :=
  chk (ckO σ 2 l0) <|
  chk (ckV (gR σ l0 4)) <|
  chk (ckT (gR σ l0 4) && ckT 1003) <|
  if (gR σ l0 4) = 1003 then
    chk (ckO σ 2 l0) <|
    if (gI σ l0 7) < l1 then
      DX3_takeNumber_34 l0 σ
    else
      chk (ckO σ 2 l0) <|
      if (gI σ l0 7) ≤ l2 then
        chk (ckO σ 2 l0) <|
        chk (ckO σ 2 l0) <|
        bnd (DX3_step l0 σ) fun _ σ1 =>
        some ((gI σ l0 7), σ1)
      else
        DX3_takeNumber_34 l0 σ
  else
    chk (ckO σ 2 l0) <|
    bnd (DX3_failHere l0 (1 : Int32) σ) fun v2 σ3 =>
    some ((-1 : Int32), σ3)
theorem mX3_takeNumber (E : Ev) (l : Launch) {l0 : Nat} {l1 : Int32} {l2 : Int32} {σ : Sg} {r : Int32} {σ' : Sg} (h : DX3_takeNumber l0 l1 l2 σ = some (r, σ')) : Mt E l yX3_takeNumber cX3_takeNumber 4 (some .int) 3 0 0 [.ref (ad E l0), .int l1, .int l2] σ (some (.int r)) σ' := by
  refine Mt.ofX (by decide) (Nat.le_of_ble_eq_true rfl) (L0 := [some (.ref (ad E l0)), some (.int l1), some (.int l2), none]) (xEntN_ok [.ref (ad E l0), .int l1, .int l2] 4) (fun p e s m args below meth c C hr hn => ?_)
  unfold DX3_takeNumber at h
  refine x_aload_n (pc := 0) C dX3_takeNumber_0 rfl rfl ?_
  obtain ⟨k, h⟩ := chk_s h
  have k2 := k
  obtain ⟨k, h⟩ := chk_s h
  refine x_getR (pc := 1) C fX3_24 rfl k2 k dX3_takeNumber_1 ?_
  refine x_getTok (pc := 4) C 3 (by decide) gX3_92 dX3_takeNumber_4 ?_
  obtain ⟨k, h⟩ := chk_s h
  refine x_tcmp_eq (pc := 7) (tgt := 18) C k dX3_takeNumber_7 (by decide) (fun q => ?_) (fun q => ?_)
  · rw [if_pos q] at h
    refine x_aload_n (pc := 18) C dX3_takeNumber_18 rfl rfl ?_
    obtain ⟨k, h⟩ := chk_s h
    refine x_getI (pc := 19) C fX3_34 rfl k dX3_takeNumber_19 ?_
    refine x_iload_n (pc := 22) C dX3_takeNumber_22 rfl rfl ?_
    refine x_icmp_lt (pc := 23) (tgt := 34) C dX3_takeNumber_23 (by decide) (fun q => ?_) (fun q => ?_)
    · rw [if_pos q] at h
      exact x_sub (tX3_takeNumber_34 C hr h) (xLe_s (xLe_n (xLe_n (xLe_n xLe_0))))
    · rw [if_neg q] at h
      refine x_aload_n (pc := 26) C dX3_takeNumber_26 rfl rfl ?_
      obtain ⟨k, h⟩ := chk_s h
      refine x_getI (pc := 27) C fX3_34 rfl k dX3_takeNumber_27 ?_
      refine x_iload_n (pc := 30) C dX3_takeNumber_30 rfl rfl ?_
      refine x_icmp_le (pc := 31) (tgt := 42) C dX3_takeNumber_31 (by decide) (fun q => ?_) (fun q => ?_)
      · rw [if_pos q] at h
        refine x_aload_n (pc := 42) C dX3_takeNumber_42 rfl rfl ?_
        obtain ⟨k, h⟩ := chk_s h
        refine x_getI (pc := 43) C fX3_34 rfl k dX3_takeNumber_43 ?_
        refine x_istore_n (M := [some _, some _, some _, some _]) (pc := 46) C dX3_takeNumber_46 rfl (by decide) rfl ?_
        refine x_aload_n (pc := 47) C dX3_takeNumber_47 rfl rfl ?_
        obtain ⟨k, h⟩ := chk_s h
        have k2 := k
        obtain ⟨u0, σ1, k, h⟩ := bnd_s h
        refine x_callV0 (pc := 48) C (mX3_step E l k) cl2 k2 cX3_65 nX3_step sX3_step rfl rfl (Nat.le_of_ble_eq_true rfl) ⟨Nat.le_of_ble_eq_true rfl, Nat.le_of_ble_eq_true rfl, Nat.le_of_ble_eq_true rfl, Nat.le_of_ble_eq_true rfl⟩ dX3_takeNumber_48 ?_
        refine x_iload_n (pc := 51) C dX3_takeNumber_51 rfl rfl ?_
        cases h
        exact x_iret C hr dX3_takeNumber_52
      · rw [if_neg q] at h
        exact x_sub (tX3_takeNumber_34 C hr h) (xLe_s (xLe_n (xLe_n (xLe_n xLe_0))))
  · rw [if_neg q] at h
    refine x_aload_n (pc := 10) C dX3_takeNumber_10 rfl rfl ?_
    refine x_iconst (v := 1) (pc := 11) C dX3_takeNumber_11 (by decide) ?_
    obtain ⟨k, h⟩ := chk_s h
    have k2 := k
    obtain ⟨v2, σ3, k, h⟩ := bnd_s h
    refine x_callV1 (pc := 12) C (mX3_failHere E l k) cl2 k2 cX3_116 nX3_failHere sX3_failHere rfl rfl (Nat.le_of_ble_eq_true rfl) ⟨Nat.le_of_ble_eq_true rfl, Nat.le_of_ble_eq_true rfl, Nat.le_of_ble_eq_true rfl, Nat.le_of_ble_eq_true rfl⟩ dX3_takeNumber_12 ?_
    refine x_pop (pc := 15) C dX3_takeNumber_15 rfl ?_
    refine x_iconst (v := -1) (pc := 16) C dX3_takeNumber_16 (by decide) ?_
    cases h
    exact x_iret C hr dX3_takeNumber_17
def DX3_readLeg (l0 : Nat) (σ : Sg) : Option (Int32 × Sg) :=
  chk (ckO σ 2 l0) <|
  bnd (DX3_step l0 σ) fun _ σ1 =>
  chk (ckO σ1 2 l0) <|
  bnd (DX3_takePlace l0 (-1 : Int32) σ1) fun v2 σ3 =>
  if v2 = (-1 : Int32) then
    chk (ck01 (0 : Int32)) <|
    some ((0 : Int32), σ3)
  else
    chk (ckO σ3 2 l0) <|
    bnd (DX3_takePlace l0 v2 σ3) fun v4 σ5 =>
    if v4 = (-1 : Int32) then
      chk (ck01 (0 : Int32)) <|
      some ((0 : Int32), σ5)
    else
      chk (ckO σ5 2 l0) <|
      chk (ckV (gR σ5 l0 1)) <|
      chk (ckO σ5 0 (gR σ5 l0 1)) <|
      chk (ckV (gR σ5 (gR σ5 l0 1) 13)) <|
      chk (ckG σ5 (gR σ5 (gR σ5 l0 1) 13) v2) <|
      chk (ckR σ5 (gR σ5 (gR σ5 l0 1) 13) v2.toNatClampNeg v4) <|
      if (aG σ5 (gR σ5 (gR σ5 l0 1) 13) v2.toNatClampNeg v4.toNatClampNeg) = 0 then
        chk (ckO σ5 2 l0) <|
        bnd (DX3_takeNumber l0 (1 : Int32) (9999 : Int32) σ5) fun v6 σ7 =>
        if v6 = (-1 : Int32) then
          chk (ck01 (0 : Int32)) <|
          some ((0 : Int32), σ7)
        else
          chk (ckO σ7 2 l0) <|
          chk (ckV (gR σ7 l0 1)) <|
          chk (ckO σ7 0 (gR σ7 l0 1)) <|
          bnd (DX1_addLeg (gR σ7 l0 1) v2 v4 v6 σ7) fun _ σ8 =>
          chk (ckO σ8 2 l0) <|
          bnd (DX3_takeSemicolon l0 σ8) fun v9 σ10 =>
          chk (ck01 v9) <|
          some (v9, σ10)
      else
        chk (ckO σ5 2 l0) <|
        bnd (DX3_failTaken l0 (3 : Int32) σ5) fun v11 σ12 =>
        chk (ck01 v11) <|
        some (v11, σ12)
theorem mX3_readLeg (E : Ev) (l : Launch) {l0 : Nat} {σ : Sg} {r : Int32} {σ' : Sg} (h : DX3_readLeg l0 σ = some (r, σ')) : Mt E l yX3_readLeg cX3_readLeg 4 (some .boolean) 4 0 0 [.ref (ad E l0)] σ (some (.int r)) σ' := by
  refine Mt.ofX (by decide) (Nat.le_of_ble_eq_true rfl) (L0 := [some (.ref (ad E l0)), none, none, none]) (xEntN_ok [.ref (ad E l0)] 4) (fun p e s m args below meth c C hr hn => ?_)
  unfold DX3_readLeg at h
  refine x_aload_n (pc := 0) C dX3_readLeg_0 rfl rfl ?_
  obtain ⟨k, h⟩ := chk_s h
  have k2 := k
  obtain ⟨u0, σ1, k, h⟩ := bnd_s h
  refine x_callV0 (pc := 1) C (mX3_step E l k) cl2 k2 cX3_65 nX3_step sX3_step rfl rfl (Nat.le_of_ble_eq_true rfl) ⟨Nat.le_of_ble_eq_true rfl, Nat.le_of_ble_eq_true rfl, Nat.le_of_ble_eq_true rfl, Nat.le_of_ble_eq_true rfl⟩ dX3_readLeg_1 ?_
  refine x_aload_n (pc := 4) C dX3_readLeg_4 rfl rfl ?_
  refine x_iconst (v := -1) (pc := 5) C dX3_readLeg_5 (by decide) ?_
  obtain ⟨k, h⟩ := chk_s h
  have k2 := k
  obtain ⟨v2, σ3, k, h⟩ := bnd_s h
  refine x_callV1 (pc := 6) C (mX3_takePlace E l k) cl2 k2 cX3_201 nX3_takePlace sX3_takePlace rfl rfl (Nat.le_of_ble_eq_true rfl) ⟨Nat.le_of_ble_eq_true rfl, Nat.le_of_ble_eq_true rfl, Nat.le_of_ble_eq_true rfl, Nat.le_of_ble_eq_true rfl⟩ dX3_readLeg_6 ?_
  refine x_istore_n (M := [some _, some _, none, none]) (pc := 9) C dX3_readLeg_9 rfl (by decide) rfl ?_
  refine x_iload_n (pc := 10) C dX3_readLeg_10 rfl rfl ?_
  refine x_iconst (v := -1) (pc := 11) C dX3_readLeg_11 (by decide) ?_
  refine x_icmp_ne (pc := 12) (tgt := 17) C dX3_readLeg_12 (by decide) (fun q => ?_) (fun q => ?_)
  · rw [if_pos q] at h
    refine x_iconst (v := 0) (pc := 15) C dX3_readLeg_15 (by decide) ?_
    obtain ⟨kz, h⟩ := chk_s h
    cases h
    exact x_zret C hr (nar_01 kz) dX3_readLeg_16
  · rw [if_neg q] at h
    refine x_aload_n (pc := 17) C dX3_readLeg_17 rfl rfl ?_
    refine x_iload_n (pc := 18) C dX3_readLeg_18 rfl rfl ?_
    obtain ⟨k, h⟩ := chk_s h
    have k2 := k
    obtain ⟨v4, σ5, k, h⟩ := bnd_s h
    refine x_callV1 (pc := 19) C (mX3_takePlace E l k) cl2 k2 cX3_201 nX3_takePlace sX3_takePlace rfl rfl (Nat.le_of_ble_eq_true rfl) ⟨Nat.le_of_ble_eq_true rfl, Nat.le_of_ble_eq_true rfl, Nat.le_of_ble_eq_true rfl, Nat.le_of_ble_eq_true rfl⟩ dX3_readLeg_19 ?_
    refine x_istore_n (M := [some _, some _, some _, none]) (pc := 22) C dX3_readLeg_22 rfl (by decide) rfl ?_
    refine x_iload_n (pc := 23) C dX3_readLeg_23 rfl rfl ?_
    refine x_iconst (v := -1) (pc := 24) C dX3_readLeg_24 (by decide) ?_
    refine x_icmp_ne (pc := 25) (tgt := 30) C dX3_readLeg_25 (by decide) (fun q => ?_) (fun q => ?_)
    · rw [if_pos q] at h
      refine x_iconst (v := 0) (pc := 28) C dX3_readLeg_28 (by decide) ?_
      obtain ⟨kz, h⟩ := chk_s h
      cases h
      exact x_zret C hr (nar_01 kz) dX3_readLeg_29
    · rw [if_neg q] at h
      refine x_aload_n (pc := 30) C dX3_readLeg_30 rfl rfl ?_
      obtain ⟨k, h⟩ := chk_s h
      have k2 := k
      obtain ⟨k, h⟩ := chk_s h
      refine x_getR (pc := 31) C fX3_50 rfl k2 k dX3_readLeg_31 ?_
      obtain ⟨k, h⟩ := chk_s h
      have k2 := k
      obtain ⟨k, h⟩ := chk_s h
      refine x_getR (pc := 34) C fX3_205 rfl k2 k dX3_readLeg_34 ?_
      refine x_iload_n (pc := 37) C dX3_readLeg_37 rfl rfl ?_
      obtain ⟨k, h⟩ := chk_s h
      refine x_gald (pc := 38) C k dX3_readLeg_38 ?_
      refine x_iload_n (pc := 39) C dX3_readLeg_39 rfl rfl ?_
      obtain ⟨k, h⟩ := chk_s h
      refine x_rald (pc := 40) C k dX3_readLeg_40 ?_
      refine x_if_eq (pc := 41) (tgt := 50) C dX3_readLeg_41 (by decide) (fun q => ?_) (fun q => ?_)
      · rw [if_pos q] at h
        refine x_aload_n (pc := 50) C dX3_readLeg_50 rfl rfl ?_
        refine x_iconst (v := 1) (pc := 51) C dX3_readLeg_51 (by decide) ?_
        refine x_sipush (v := 9999) (pc := 52) C dX3_readLeg_52 (by decide) ?_
        obtain ⟨k, h⟩ := chk_s h
        have k2 := k
        obtain ⟨v6, σ7, k, h⟩ := bnd_s h
        refine x_callV1 (pc := 55) C (mX3_takeNumber E l k) cl2 k2 cX3_212 nX3_takeNumber sX3_takeNumber rfl rfl (Nat.le_of_ble_eq_true rfl) ⟨Nat.le_of_ble_eq_true rfl, Nat.le_of_ble_eq_true rfl, Nat.le_of_ble_eq_true rfl, Nat.le_of_ble_eq_true rfl⟩ dX3_readLeg_55 ?_
        refine x_istore_n (M := [some _, some _, some _, some _]) (pc := 58) C dX3_readLeg_58 rfl (by decide) rfl ?_
        refine x_iload_n (pc := 59) C dX3_readLeg_59 rfl rfl ?_
        refine x_iconst (v := -1) (pc := 60) C dX3_readLeg_60 (by decide) ?_
        refine x_icmp_ne (pc := 61) (tgt := 66) C dX3_readLeg_61 (by decide) (fun q => ?_) (fun q => ?_)
        · rw [if_pos q] at h
          refine x_iconst (v := 0) (pc := 64) C dX3_readLeg_64 (by decide) ?_
          obtain ⟨kz, h⟩ := chk_s h
          cases h
          exact x_zret C hr (nar_01 kz) dX3_readLeg_65
        · rw [if_neg q] at h
          refine x_aload_n (pc := 66) C dX3_readLeg_66 rfl rfl ?_
          obtain ⟨k, h⟩ := chk_s h
          have k2 := k
          obtain ⟨k, h⟩ := chk_s h
          refine x_getR (pc := 67) C fX3_50 rfl k2 k dX3_readLeg_67 ?_
          refine x_iload_n (pc := 70) C dX3_readLeg_70 rfl rfl ?_
          refine x_iload_n (pc := 71) C dX3_readLeg_71 rfl rfl ?_
          refine x_iload_n (pc := 72) C dX3_readLeg_72 rfl rfl ?_
          obtain ⟨k, h⟩ := chk_s h
          have k2 := k
          obtain ⟨u0, σ8, k, h⟩ := bnd_s h
          refine x_callV0 (pc := 73) C (mX1_addLeg E l k) cl0 k2 cX3_215 nX1_addLeg sX1_addLeg rfl rfl (Nat.le_of_ble_eq_true rfl) ⟨Nat.le_of_ble_eq_true rfl, Nat.le_of_ble_eq_true rfl, Nat.le_of_ble_eq_true rfl, Nat.le_of_ble_eq_true rfl⟩ dX3_readLeg_73 ?_
          refine x_aload_n (pc := 76) C dX3_readLeg_76 rfl rfl ?_
          obtain ⟨k, h⟩ := chk_s h
          have k2 := k
          obtain ⟨v9, σ10, k, h⟩ := bnd_s h
          refine x_callV1 (pc := 77) C (mX3_takeSemicolon E l k) cl2 k2 cX3_195 nX3_takeSemicolon sX3_takeSemicolon rfl rfl (Nat.le_of_ble_eq_true rfl) ⟨Nat.le_of_ble_eq_true rfl, Nat.le_of_ble_eq_true rfl, Nat.le_of_ble_eq_true rfl, Nat.le_of_ble_eq_true rfl⟩ dX3_readLeg_77 ?_
          obtain ⟨kz, h⟩ := chk_s h
          cases h
          exact x_zret C hr (nar_01 kz) dX3_readLeg_80
      · rw [if_neg q] at h
        refine x_aload_n (pc := 44) C dX3_readLeg_44 rfl rfl ?_
        refine x_iconst (v := 3) (pc := 45) C dX3_readLeg_45 (by decide) ?_
        obtain ⟨k, h⟩ := chk_s h
        have k2 := k
        obtain ⟨v11, σ12, k, h⟩ := bnd_s h
        refine x_callV1 (pc := 46) C (mX3_failTaken E l k) cl2 k2 cX3_209 nX3_failTaken sX3_failTaken rfl rfl (Nat.le_of_ble_eq_true rfl) ⟨Nat.le_of_ble_eq_true rfl, Nat.le_of_ble_eq_true rfl, Nat.le_of_ble_eq_true rfl, Nat.le_of_ble_eq_true rfl⟩ dX3_readLeg_46 ?_
        obtain ⟨kz, h⟩ := chk_s h
        cases h
        exact x_zret C hr (nar_01 kz) dX3_readLeg_49
def DX3_readBand (l0 : Nat) (σ : Sg) : Option (Int32 × Sg) :=
  chk (ckO σ 2 l0) <|
  bnd (DX3_step l0 σ) fun _ σ1 =>
  chk (ckO σ1 2 l0) <|
  chk (ckV (gR σ1 l0 1)) <|
  chk (ckO σ1 0 (gR σ1 l0 1)) <|
  bnd (DX1_lastBand (gR σ1 l0 1) σ1) fun v2 σ3 =>
  chk (ckO σ3 2 l0) <|
  bnd (DX3_takeNumber l0 (v2 + (1 : Int32)) (9999 : Int32) σ3) fun v4 σ5 =>
  if v4 = (-1 : Int32) then
    chk (ck01 (0 : Int32)) <|
    some ((0 : Int32), σ5)
  else
    chk (ckO σ5 2 l0) <|
    bnd (DX3_takeNumber l0 (1 : Int32) (999 : Int32) σ5) fun v6 σ7 =>
    if v6 = (-1 : Int32) then
      chk (ck01 (0 : Int32)) <|
      some ((0 : Int32), σ7)
    else
      chk (ckO σ7 2 l0) <|
      chk (ckV (gR σ7 l0 1)) <|
      chk (ckO σ7 0 (gR σ7 l0 1)) <|
      bnd (DX1_addBand (gR σ7 l0 1) v4 v6 σ7) fun _ σ8 =>
      chk (ckO σ8 2 l0) <|
      bnd (DX3_takeSemicolon l0 σ8) fun v9 σ10 =>
      chk (ck01 v9) <|
      some (v9, σ10)
theorem mX3_readBand (E : Ev) (l : Launch) {l0 : Nat} {σ : Sg} {r : Int32} {σ' : Sg} (h : DX3_readBand l0 σ = some (r, σ')) : Mt E l yX3_readBand cX3_readBand 3 (some .boolean) 4 0 0 [.ref (ad E l0)] σ (some (.int r)) σ' := by
  refine Mt.ofX (by decide) (Nat.le_of_ble_eq_true rfl) (L0 := [some (.ref (ad E l0)), none, none]) (xEntN_ok [.ref (ad E l0)] 3) (fun p e s m args below meth c C hr hn => ?_)
  unfold DX3_readBand at h
  refine x_aload_n (pc := 0) C dX3_readBand_0 rfl rfl ?_
  obtain ⟨k, h⟩ := chk_s h
  have k2 := k
  obtain ⟨u0, σ1, k, h⟩ := bnd_s h
  refine x_callV0 (pc := 1) C (mX3_step E l k) cl2 k2 cX3_65 nX3_step sX3_step rfl rfl (Nat.le_of_ble_eq_true rfl) ⟨Nat.le_of_ble_eq_true rfl, Nat.le_of_ble_eq_true rfl, Nat.le_of_ble_eq_true rfl, Nat.le_of_ble_eq_true rfl⟩ dX3_readBand_1 ?_
  refine x_aload_n (pc := 4) C dX3_readBand_4 rfl rfl ?_
  refine x_aload_n (pc := 5) C dX3_readBand_5 rfl rfl ?_
  obtain ⟨k, h⟩ := chk_s h
  have k2 := k
  obtain ⟨k, h⟩ := chk_s h
  refine x_getR (pc := 6) C fX3_50 rfl k2 k dX3_readBand_6 ?_
  obtain ⟨k, h⟩ := chk_s h
  have k2 := k
  obtain ⟨v2, σ3, k, h⟩ := bnd_s h
  refine x_callV1 (pc := 9) C (mX1_lastBand E l k) cl0 k2 cX3_219 nX1_lastBand sX1_lastBand rfl rfl (Nat.le_of_ble_eq_true rfl) ⟨Nat.le_of_ble_eq_true rfl, Nat.le_of_ble_eq_true rfl, Nat.le_of_ble_eq_true rfl, Nat.le_of_ble_eq_true rfl⟩ dX3_readBand_9 ?_
  refine x_iconst (v := 1) (pc := 12) C dX3_readBand_12 (by decide) ?_
  refine x_iadd (pc := 13) C dX3_readBand_13 ?_
  refine x_sipush (v := 9999) (pc := 14) C dX3_readBand_14 (by decide) ?_
  obtain ⟨k, h⟩ := chk_s h
  have k2 := k
  obtain ⟨v4, σ5, k, h⟩ := bnd_s h
  refine x_callV1 (pc := 17) C (mX3_takeNumber E l k) cl2 k2 cX3_212 nX3_takeNumber sX3_takeNumber rfl rfl (Nat.le_of_ble_eq_true rfl) ⟨Nat.le_of_ble_eq_true rfl, Nat.le_of_ble_eq_true rfl, Nat.le_of_ble_eq_true rfl, Nat.le_of_ble_eq_true rfl⟩ dX3_readBand_17 ?_
  refine x_istore_n (M := [some _, some _, none]) (pc := 20) C dX3_readBand_20 rfl (by decide) rfl ?_
  refine x_iload_n (pc := 21) C dX3_readBand_21 rfl rfl ?_
  refine x_iconst (v := -1) (pc := 22) C dX3_readBand_22 (by decide) ?_
  refine x_icmp_ne (pc := 23) (tgt := 28) C dX3_readBand_23 (by decide) (fun q => ?_) (fun q => ?_)
  · rw [if_pos q] at h
    refine x_iconst (v := 0) (pc := 26) C dX3_readBand_26 (by decide) ?_
    obtain ⟨kz, h⟩ := chk_s h
    cases h
    exact x_zret C hr (nar_01 kz) dX3_readBand_27
  · rw [if_neg q] at h
    refine x_aload_n (pc := 28) C dX3_readBand_28 rfl rfl ?_
    refine x_iconst (v := 1) (pc := 29) C dX3_readBand_29 (by decide) ?_
    refine x_sipush (v := 999) (pc := 30) C dX3_readBand_30 (by decide) ?_
    obtain ⟨k, h⟩ := chk_s h
    have k2 := k
    obtain ⟨v6, σ7, k, h⟩ := bnd_s h
    refine x_callV1 (pc := 33) C (mX3_takeNumber E l k) cl2 k2 cX3_212 nX3_takeNumber sX3_takeNumber rfl rfl (Nat.le_of_ble_eq_true rfl) ⟨Nat.le_of_ble_eq_true rfl, Nat.le_of_ble_eq_true rfl, Nat.le_of_ble_eq_true rfl, Nat.le_of_ble_eq_true rfl⟩ dX3_readBand_33 ?_
    refine x_istore_n (M := [some _, some _, some _]) (pc := 36) C dX3_readBand_36 rfl (by decide) rfl ?_
    refine x_iload_n (pc := 37) C dX3_readBand_37 rfl rfl ?_
    refine x_iconst (v := -1) (pc := 38) C dX3_readBand_38 (by decide) ?_
    refine x_icmp_ne (pc := 39) (tgt := 44) C dX3_readBand_39 (by decide) (fun q => ?_) (fun q => ?_)
    · rw [if_pos q] at h
      refine x_iconst (v := 0) (pc := 42) C dX3_readBand_42 (by decide) ?_
      obtain ⟨kz, h⟩ := chk_s h
      cases h
      exact x_zret C hr (nar_01 kz) dX3_readBand_43
    · rw [if_neg q] at h
      refine x_aload_n (pc := 44) C dX3_readBand_44 rfl rfl ?_
      obtain ⟨k, h⟩ := chk_s h
      have k2 := k
      obtain ⟨k, h⟩ := chk_s h
      refine x_getR (pc := 45) C fX3_50 rfl k2 k dX3_readBand_45 ?_
      refine x_iload_n (pc := 48) C dX3_readBand_48 rfl rfl ?_
      refine x_iload_n (pc := 49) C dX3_readBand_49 rfl rfl ?_
      obtain ⟨k, h⟩ := chk_s h
      have k2 := k
      obtain ⟨u0, σ8, k, h⟩ := bnd_s h
      refine x_callV0 (pc := 50) C (mX1_addBand E l k) cl0 k2 cX3_222 nX1_addBand sX1_addBand rfl rfl (Nat.le_of_ble_eq_true rfl) ⟨Nat.le_of_ble_eq_true rfl, Nat.le_of_ble_eq_true rfl, Nat.le_of_ble_eq_true rfl, Nat.le_of_ble_eq_true rfl⟩ dX3_readBand_50 ?_
      refine x_aload_n (pc := 53) C dX3_readBand_53 rfl rfl ?_
      obtain ⟨k, h⟩ := chk_s h
      have k2 := k
      obtain ⟨v9, σ10, k, h⟩ := bnd_s h
      refine x_callV1 (pc := 54) C (mX3_takeSemicolon E l k) cl2 k2 cX3_195 nX3_takeSemicolon sX3_takeSemicolon rfl rfl (Nat.le_of_ble_eq_true rfl) ⟨Nat.le_of_ble_eq_true rfl, Nat.le_of_ble_eq_true rfl, Nat.le_of_ble_eq_true rfl, Nat.le_of_ble_eq_true rfl⟩ dX3_readBand_54 ?_
      obtain ⟨kz, h⟩ := chk_s h
      cases h
      exact x_zret C hr (nar_01 kz) dX3_readBand_57
def DX3_takeCarrier_36 (l0 : Nat) (σ : Sg) : Option (Int32 × Sg) :=
  chk (ckO σ 2 l0) <|
  bnd (DX3_failHere l0 (1 : Int32) σ) fun v1 σ2 =>
  some ((-1 : Int32), σ2)
theorem tX3_takeCarrier_36 {r : Int32} {σ' : Sg} (C : Cx E p s m args meth c RX3 cX3_takeCarrier 3) (hr : meth.sig.returnType = (some .int)) {l0 : Nat} {σ : Sg} (h : DX3_takeCarrier_36 l0 σ = some (r, σ')) : Y E p l e (rmA 3 0 0) s m args below meth c (some (.int r)) σ' 0 0 3 0 0 σ 36 [some (.ref (ad E l0)), none, none] [] := by
  unfold DX3_takeCarrier_36 at h
  refine x_aload_n (pc := 36) C dX3_takeCarrier_36 rfl rfl ?_
  refine x_iconst (v := 1) (pc := 37) C dX3_takeCarrier_37 (by decide) ?_
  obtain ⟨k, h⟩ := chk_s h
  have k2 := k
  obtain ⟨v1, σ2, k, h⟩ := bnd_s h
  refine x_callV1 (pc := 38) C (mX3_failHere E l k) cl2 k2 cX3_116 nX3_failHere sX3_failHere rfl rfl (Nat.le_of_ble_eq_true rfl) ⟨Nat.le_of_ble_eq_true rfl, Nat.le_of_ble_eq_true rfl, Nat.le_of_ble_eq_true rfl, Nat.le_of_ble_eq_true rfl⟩ dX3_takeCarrier_38 ?_
  refine x_pop (pc := 41) C dX3_takeCarrier_41 rfl ?_
  refine x_iconst (v := -1) (pc := 42) C dX3_takeCarrier_42 (by decide) ?_
  cases h
  exact x_iret C hr dX3_takeCarrier_43
def DX3_takeCarrier_25 (l0 : Nat) (l1 : Int32) (s0 : Int32) (σ : Sg) : Option (Int32 × Sg) :=
  if s0 = (-1 : Int32) then
    DX3_takeCarrier_36 l0 σ
  else
    if s0 = l1 then
      DX3_takeCarrier_36 l0 σ
    else
      chk (ckO σ 2 l0) <|
      bnd (DX3_step l0 σ) fun _ σ1 =>
      some (s0, σ1)
theorem tX3_takeCarrier_25 {r : Int32} {σ' : Sg} (C : Cx E p s m args meth c RX3 cX3_takeCarrier 3) (hr : meth.sig.returnType = (some .int)) {l0 : Nat} {l1 : Int32} {s0 : Int32} {σ : Sg} (h : DX3_takeCarrier_25 l0 l1 s0 σ = some (r, σ')) : Y E p l e (rmA 3 0 0) s m args below meth c (some (.int r)) σ' 0 0 3 0 0 σ 25 [some (.ref (ad E l0)), some (.int l1), none] [.int s0] := by
  unfold DX3_takeCarrier_25 at h
  refine x_istore_n (M := [some _, some _, some _]) (pc := 25) C dX3_takeCarrier_25 rfl (by decide) rfl ?_
  refine x_iload_n (pc := 26) C dX3_takeCarrier_26 rfl rfl ?_
  refine x_iconst (v := -1) (pc := 27) C dX3_takeCarrier_27 (by decide) ?_
  refine x_icmp_eq (pc := 28) (tgt := 36) C dX3_takeCarrier_28 (by decide) (fun q => ?_) (fun q => ?_)
  · rw [if_pos q] at h
    exact x_sub (tX3_takeCarrier_36 C hr h) (xLe_s (xLe_n (xLe_n xLe_0)))
  · rw [if_neg q] at h
    refine x_iload_n (pc := 31) C dX3_takeCarrier_31 rfl rfl ?_
    refine x_iload_n (pc := 32) C dX3_takeCarrier_32 rfl rfl ?_
    refine x_icmp_ne (pc := 33) (tgt := 44) C dX3_takeCarrier_33 (by decide) (fun q => ?_) (fun q => ?_)
    · rw [if_pos q] at h
      exact x_sub (tX3_takeCarrier_36 C hr h) (xLe_s (xLe_n (xLe_n xLe_0)))
    · rw [if_neg q] at h
      refine x_aload_n (pc := 44) C dX3_takeCarrier_44 rfl rfl ?_
      obtain ⟨k, h⟩ := chk_s h
      have k2 := k
      obtain ⟨u0, σ1, k, h⟩ := bnd_s h
      refine x_callV0 (pc := 45) C (mX3_step E l k) cl2 k2 cX3_65 nX3_step sX3_step rfl rfl (Nat.le_of_ble_eq_true rfl) ⟨Nat.le_of_ble_eq_true rfl, Nat.le_of_ble_eq_true rfl, Nat.le_of_ble_eq_true rfl, Nat.le_of_ble_eq_true rfl⟩ dX3_takeCarrier_45 ?_
      refine x_iload_n (pc := 48) C dX3_takeCarrier_48 rfl rfl ?_
      cases h
      exact x_iret C hr dX3_takeCarrier_49
def DX3_takeCarrier (l0 : Nat) (l1 : Int32) (σ : Sg) : Option (Int32 × Sg) :=
  chk (ckO σ 2 l0) <|
  chk (ckV (gR σ l0 4)) <|
  chk (ckT (gR σ l0 4) && ckT 1004) <|
  if (gR σ l0 4) = 1004 then
    chk (ckO σ 2 l0) <|
    chk (ckV (gR σ l0 1)) <|
    chk (ckO σ 2 l0) <|
    chk (ckO σ 0 (gR σ l0 1)) <|
    bnd (DX1_carrierNamed (gR σ l0 1) (gJ σ l0 6) σ) fun v1 σ2 =>
    DX3_takeCarrier_25 l0 l1 v1 σ2
  else
    DX3_takeCarrier_25 l0 l1 (-1 : Int32) σ
theorem mX3_takeCarrier (E : Ev) (l : Launch) {l0 : Nat} {l1 : Int32} {σ : Sg} {r : Int32} {σ' : Sg} (h : DX3_takeCarrier l0 l1 σ = some (r, σ')) : Mt E l yX3_takeCarrier cX3_takeCarrier 3 (some .int) 3 0 0 [.ref (ad E l0), .int l1] σ (some (.int r)) σ' := by
  refine Mt.ofX (by decide) (Nat.le_of_ble_eq_true rfl) (L0 := [some (.ref (ad E l0)), some (.int l1), none]) (xEntN_ok [.ref (ad E l0), .int l1] 3) (fun p e s m args below meth c C hr hn => ?_)
  unfold DX3_takeCarrier at h
  refine x_aload_n (pc := 0) C dX3_takeCarrier_0 rfl rfl ?_
  obtain ⟨k, h⟩ := chk_s h
  have k2 := k
  obtain ⟨k, h⟩ := chk_s h
  refine x_getR (pc := 1) C fX3_24 rfl k2 k dX3_takeCarrier_1 ?_
  refine x_getTok (pc := 4) C 4 (by decide) gX3_82 dX3_takeCarrier_4 ?_
  obtain ⟨k, h⟩ := chk_s h
  refine x_tcmp_ne (pc := 7) (tgt := 24) C k dX3_takeCarrier_7 (by decide) (fun q => ?_) (fun q => ?_)
  · rw [if_pos q] at h
    refine x_aload_n (pc := 10) C dX3_takeCarrier_10 rfl rfl ?_
    obtain ⟨k, h⟩ := chk_s h
    have k2 := k
    obtain ⟨k, h⟩ := chk_s h
    refine x_getR (pc := 11) C fX3_50 rfl k2 k dX3_takeCarrier_11 ?_
    refine x_aload_n (pc := 14) C dX3_takeCarrier_14 rfl rfl ?_
    obtain ⟨k, h⟩ := chk_s h
    refine x_getJ (pc := 15) C fX3_30 rfl k dX3_takeCarrier_15 ?_
    obtain ⟨k, h⟩ := chk_s h
    have k2 := k
    obtain ⟨v1, σ2, k, h⟩ := bnd_s h
    refine x_callV1 (pc := 18) C (mX1_carrierNamed E l k) cl0 k2 cX3_174 nX1_carrierNamed sX1_carrierNamed rfl rfl (Nat.le_of_ble_eq_true rfl) ⟨Nat.le_of_ble_eq_true rfl, Nat.le_of_ble_eq_true rfl, Nat.le_of_ble_eq_true rfl, Nat.le_of_ble_eq_true rfl⟩ dX3_takeCarrier_18 ?_
    refine x_goto (tgt := 25) (pc := 21) C dX3_takeCarrier_21 (by decide) ?_
    exact x_sub (tX3_takeCarrier_25 C hr h) (xLe_s (xLe_s (xLe_n xLe_0)))
  · rw [if_neg q] at h
    refine x_iconst (v := -1) (pc := 24) C dX3_takeCarrier_24 (by decide) ?_
    exact x_sub (tX3_takeCarrier_25 C hr h) (xLe_s (xLe_s (xLe_n xLe_0)))
def DX3_kindOf (l0 : Nat) (σ : Sg) : Option (Int32 × Sg) :=
  chk (ckT l0) <|
  chk (inb (nI (l0 - 1000)) 20) <|
  if (swm.getD (nI (l0 - 1000)).toNatClampNeg 0) = 9 then
    some ((1 : Int32), σ)
  else
    if (swm.getD (nI (l0 - 1000)).toNatClampNeg 0) = 10 then
      some ((2 : Int32), σ)
    else
      if (swm.getD (nI (l0 - 1000)).toNatClampNeg 0) = 11 then
        some ((3 : Int32), σ)
      else
        if (swm.getD (nI (l0 - 1000)).toNatClampNeg 0) = 12 then
          some ((4 : Int32), σ)
        else
          some ((-1 : Int32), σ)
theorem mX3_kindOf (E : Ev) (l : Launch) {l0 : Nat} {σ : Sg} {r : Int32} {σ' : Sg} (h : DX3_kindOf l0 σ = some (r, σ')) : Mt E l yX3_kindOf cX3_kindOf 1 (some .int) 2 0 0 [.ref (ad E l0)] σ (some (.int r)) σ' := by
  refine Mt.ofX (by decide) (Nat.le_of_ble_eq_true rfl) (L0 := [some (.ref (ad E l0))]) (xEntN_ok [.ref (ad E l0)] 1) (fun p e s m args below meth c C hr hn => ?_)
  unfold DX3_kindOf at h
  refine x_getSwm (pc := 0) C gX3_100 dX3_kindOf_0 ?_
  refine x_aload_n (pc := 3) C dX3_kindOf_3 rfl rfl ?_
  obtain ⟨k, h⟩ := chk_s h
  refine x_ordX3 (pc := 4) C k ⟨Nat.le_of_ble_eq_true rfl, Nat.le_of_ble_eq_true rfl, Nat.le_of_ble_eq_true rfl, Nat.le_of_ble_eq_true rfl⟩ (Nat.le_of_ble_eq_true rfl) dX3_kindOf_4 ?_
  obtain ⟨k, h⟩ := chk_s h
  refine x_ialdSwm (pc := 7) C k dX3_kindOf_7 ?_
  refine br_em (c := (swm.getD (nI (l0 - 1000)).toNatClampNeg 0) = 9) (fun q0 => ?_) (fun q0 => ?_)
  · rw [if_pos q0] at h
    refine x_switchIn (pc := 8) (tgt := 40) C dX3_kindOf_8 (by rw [q0]; decide) (by rw [q0]; decide) (o := 32) (by rw [q0]; rfl) (by decide) ?_
    refine x_iconst (v := 1) (pc := 40) C dX3_kindOf_40 (by decide) ?_
    cases h
    exact x_iret C hr dX3_kindOf_41
  · rw [if_neg q0] at h
    refine br_em (c := (swm.getD (nI (l0 - 1000)).toNatClampNeg 0) = 10) (fun q1 => ?_) (fun q1 => ?_)
    · rw [if_pos q1] at h
      refine x_switchIn (pc := 8) (tgt := 42) C dX3_kindOf_8 (by rw [q1]; decide) (by rw [q1]; decide) (o := 34) (by rw [q1]; rfl) (by decide) ?_
      refine x_iconst (v := 2) (pc := 42) C dX3_kindOf_42 (by decide) ?_
      cases h
      exact x_iret C hr dX3_kindOf_43
    · rw [if_neg q1] at h
      refine br_em (c := (swm.getD (nI (l0 - 1000)).toNatClampNeg 0) = 11) (fun q2 => ?_) (fun q2 => ?_)
      · rw [if_pos q2] at h
        refine x_switchIn (pc := 8) (tgt := 44) C dX3_kindOf_8 (by rw [q2]; decide) (by rw [q2]; decide) (o := 36) (by rw [q2]; rfl) (by decide) ?_
        refine x_iconst (v := 3) (pc := 44) C dX3_kindOf_44 (by decide) ?_
        cases h
        exact x_iret C hr dX3_kindOf_45
      · rw [if_neg q2] at h
        refine br_em (c := (swm.getD (nI (l0 - 1000)).toNatClampNeg 0) = 12) (fun q3 => ?_) (fun q3 => ?_)
        · rw [if_pos q3] at h
          refine x_switchIn (pc := 8) (tgt := 46) C dX3_kindOf_8 (by rw [q3]; decide) (by rw [q3]; decide) (o := 38) (by rw [q3]; rfl) (by decide) ?_
          refine x_iconst (v := 4) (pc := 46) C dX3_kindOf_46 (by decide) ?_
          cases h
          exact x_iret C hr dX3_kindOf_47
        · rw [if_neg q3] at h
          have eq0 := sw_ne (k := 9) q0 (by decide)
          have eq1 := sw_ne (k := 10) q1 (by decide)
          have eq2 := sw_ne (k := 11) q2 (by decide)
          have eq3 := sw_ne (k := 12) q3 (by decide)
          refine x_switchOut (pc := 8) (tgt := 48) C dX3_kindOf_8 (by omega) (by decide) ?_
          refine x_iconst (v := -1) (pc := 48) C dX3_kindOf_48 (by decide) ?_
          cases h
          exact x_iret C hr dX3_kindOf_49
def DX3_takeKind_26 (l1 : Int32) (σ : Sg) : Option (Int32 × Sg) :=
  some (l1, σ)
theorem tX3_takeKind_26 {r : Int32} {σ' : Sg} (C : Cx E p s m args meth c RX3 cX3_takeKind 2) (hr : meth.sig.returnType = (some .int)) {l1 : Int32} {σ : Sg} (h : DX3_takeKind_26 l1 σ = some (r, σ')) : Y E p l e (rmA 3 0 0) s m args below meth c (some (.int r)) σ' 0 0 2 0 0 σ 26 [none, some (.int l1)] [] := by
  unfold DX3_takeKind_26 at h
  refine x_iload_n (pc := 26) C dX3_takeKind_26 rfl rfl ?_
  cases h
  exact x_iret C hr dX3_takeKind_27
def DX3_takeKind (l0 : Nat) (σ : Sg) : Option (Int32 × Sg) :=
  chk (ckO σ 2 l0) <|
  chk (ckV (gR σ l0 4)) <|
  bnd (DX3_kindOf (gR σ l0 4) σ) fun v1 σ2 =>
  if v1 = (-1 : Int32) then
    chk (ckO σ2 2 l0) <|
    bnd (DX3_failHere l0 (1 : Int32) σ2) fun v3 σ4 =>
    DX3_takeKind_26 v1 σ4
  else
    chk (ckO σ2 2 l0) <|
    bnd (DX3_step l0 σ2) fun _ σ5 =>
    DX3_takeKind_26 v1 σ5
theorem mX3_takeKind (E : Ev) (l : Launch) {l0 : Nat} {σ : Sg} {r : Int32} {σ' : Sg} (h : DX3_takeKind l0 σ = some (r, σ')) : Mt E l yX3_takeKind cX3_takeKind 2 (some .int) 3 0 0 [.ref (ad E l0)] σ (some (.int r)) σ' := by
  refine Mt.ofX (by decide) (Nat.le_of_ble_eq_true rfl) (L0 := [some (.ref (ad E l0)), none]) (xEntN_ok [.ref (ad E l0)] 2) (fun p e s m args below meth c C hr hn => ?_)
  unfold DX3_takeKind at h
  refine x_aload_n (pc := 0) C dX3_takeKind_0 rfl rfl ?_
  obtain ⟨k, h⟩ := chk_s h
  have k2 := k
  obtain ⟨k, h⟩ := chk_s h
  refine x_getR (pc := 1) C fX3_24 rfl k2 k dX3_takeKind_1 ?_
  obtain ⟨v1, σ2, k, h⟩ := bnd_s h
  refine x_callS1 (pc := 4) C (mX3_kindOf E l k) cX3_177 zX3_kindOf rfl rfl (Nat.le_of_ble_eq_true rfl) ⟨Nat.le_of_ble_eq_true rfl, Nat.le_of_ble_eq_true rfl, Nat.le_of_ble_eq_true rfl, Nat.le_of_ble_eq_true rfl⟩ dX3_takeKind_4 ?_
  refine x_istore_n (M := [some _, some _]) (pc := 7) C dX3_takeKind_7 rfl (by decide) rfl ?_
  refine x_iload_n (pc := 8) C dX3_takeKind_8 rfl rfl ?_
  refine x_iconst (v := -1) (pc := 9) C dX3_takeKind_9 (by decide) ?_
  refine x_icmp_ne (pc := 10) (tgt := 22) C dX3_takeKind_10 (by decide) (fun q => ?_) (fun q => ?_)
  · rw [if_pos q] at h
    refine x_aload_n (pc := 13) C dX3_takeKind_13 rfl rfl ?_
    refine x_iconst (v := 1) (pc := 14) C dX3_takeKind_14 (by decide) ?_
    obtain ⟨k, h⟩ := chk_s h
    have k2 := k
    obtain ⟨v3, σ4, k, h⟩ := bnd_s h
    refine x_callV1 (pc := 15) C (mX3_failHere E l k) cl2 k2 cX3_116 nX3_failHere sX3_failHere rfl rfl (Nat.le_of_ble_eq_true rfl) ⟨Nat.le_of_ble_eq_true rfl, Nat.le_of_ble_eq_true rfl, Nat.le_of_ble_eq_true rfl, Nat.le_of_ble_eq_true rfl⟩ dX3_takeKind_15 ?_
    refine x_pop (pc := 18) C dX3_takeKind_18 rfl ?_
    refine x_goto (tgt := 26) (pc := 19) C dX3_takeKind_19 (by decide) ?_
    exact x_sub (tX3_takeKind_26 C hr h) (xLe_n (xLe_s xLe_0))
  · rw [if_neg q] at h
    refine x_aload_n (pc := 22) C dX3_takeKind_22 rfl rfl ?_
    obtain ⟨k, h⟩ := chk_s h
    have k2 := k
    obtain ⟨u0, σ5, k, h⟩ := bnd_s h
    refine x_callV0 (pc := 23) C (mX3_step E l k) cl2 k2 cX3_65 nX3_step sX3_step rfl rfl (Nat.le_of_ble_eq_true rfl) ⟨Nat.le_of_ble_eq_true rfl, Nat.le_of_ble_eq_true rfl, Nat.le_of_ble_eq_true rfl, Nat.le_of_ble_eq_true rfl⟩ dX3_takeKind_23 ?_
    exact x_sub (tX3_takeKind_26 C hr h) (xLe_n (xLe_s xLe_0))
def DX3_readProviso_135 (l0 : Nat) (l1 : Int32) (l2 : Int32) (l3 : Int32) (l4 : Int32) (l5 : Int32) (l6 : Int32) (σ : Sg) : Option (Int32 × Sg) :=
  if l6 = (-1 : Int32) then
    chk (ck01 (0 : Int32)) <|
    some ((0 : Int32), σ)
  else
    chk (ckO σ 2 l0) <|
    chk (ckV (gR σ l0 1)) <|
    chk (ckO σ 0 (gR σ l0 1)) <|
    bnd (DX1_addProviso (gR σ l0 1) l1 l2 l3 l4 l5 l6 σ) fun _ σ1 =>
    chk (ckO σ1 2 l0) <|
    bnd (DX3_takeSemicolon l0 σ1) fun v2 σ3 =>
    chk (ck01 v2) <|
    some (v2, σ3)
theorem tX3_readProviso_135 {r : Int32} {σ' : Sg} (C : Cx E p s m args meth c RX3 cX3_readProviso 7) (hr : meth.sig.returnType = (some .boolean)) {l0 : Nat} {l1 : Int32} {l2 : Int32} {l3 : Int32} {l4 : Int32} {l5 : Int32} {l6 : Int32} {σ : Sg} (h : DX3_readProviso_135 l0 l1 l2 l3 l4 l5 l6 σ = some (r, σ')) : Y E p l e (rmA 4 0 0) s m args below meth c (some (.int r)) σ' 0 0 7 0 0 σ 135 [some (.ref (ad E l0)), some (.int l1), some (.int l2), some (.int l3), some (.int l4), some (.int l5), some (.int l6)] [] := by
  unfold DX3_readProviso_135 at h
  refine x_iload (pc := 135) C dX3_readProviso_135 rfl ?_
  refine x_iconst (v := -1) (pc := 137) C dX3_readProviso_137 (by decide) ?_
  refine x_icmp_ne (pc := 138) (tgt := 143) C dX3_readProviso_138 (by decide) (fun q => ?_) (fun q => ?_)
  · rw [if_pos q] at h
    refine x_iconst (v := 0) (pc := 141) C dX3_readProviso_141 (by decide) ?_
    obtain ⟨kz, h⟩ := chk_s h
    cases h
    exact x_zret C hr (nar_01 kz) dX3_readProviso_142
  · rw [if_neg q] at h
    refine x_aload_n (pc := 143) C dX3_readProviso_143 rfl rfl ?_
    obtain ⟨k, h⟩ := chk_s h
    have k2 := k
    obtain ⟨k, h⟩ := chk_s h
    refine x_getR (pc := 144) C fX3_50 rfl k2 k dX3_readProviso_144 ?_
    refine x_iload_n (pc := 147) C dX3_readProviso_147 rfl rfl ?_
    refine x_iload_n (pc := 148) C dX3_readProviso_148 rfl rfl ?_
    refine x_iload_n (pc := 149) C dX3_readProviso_149 rfl rfl ?_
    refine x_iload (pc := 150) C dX3_readProviso_150 rfl ?_
    refine x_iload (pc := 152) C dX3_readProviso_152 rfl ?_
    refine x_iload (pc := 154) C dX3_readProviso_154 rfl ?_
    obtain ⟨k, h⟩ := chk_s h
    have k2 := k
    obtain ⟨u0, σ1, k, h⟩ := bnd_s h
    refine x_callV0 (pc := 156) C (mX1_addProviso E l k) cl0 k2 cX3_239 nX1_addProviso sX1_addProviso rfl rfl (Nat.le_of_ble_eq_true rfl) ⟨Nat.le_of_ble_eq_true rfl, Nat.le_of_ble_eq_true rfl, Nat.le_of_ble_eq_true rfl, Nat.le_of_ble_eq_true rfl⟩ dX3_readProviso_156 ?_
    refine x_aload_n (pc := 159) C dX3_readProviso_159 rfl rfl ?_
    obtain ⟨k, h⟩ := chk_s h
    have k2 := k
    obtain ⟨v2, σ3, k, h⟩ := bnd_s h
    refine x_callV1 (pc := 160) C (mX3_takeSemicolon E l k) cl2 k2 cX3_195 nX3_takeSemicolon sX3_takeSemicolon rfl rfl (Nat.le_of_ble_eq_true rfl) ⟨Nat.le_of_ble_eq_true rfl, Nat.le_of_ble_eq_true rfl, Nat.le_of_ble_eq_true rfl, Nat.le_of_ble_eq_true rfl⟩ dX3_readProviso_160 ?_
    obtain ⟨kz, h⟩ := chk_s h
    cases h
    exact x_zret C hr (nar_01 kz) dX3_readProviso_163
def DX3_readProviso_97 (l0 : Nat) (l1 : Int32) (l2 : Int32) (l3 : Int32) (l4 : Int32) (s0 : Nat) (s1 : Int32) (s2 : Int32) (σ : Sg) : Option (Int32 × Sg) :=
  chk (ckO σ 2 s0) <|
  bnd (DX3_takeNumber s0 s1 s2 σ) fun v1 σ2 =>
  if v1 = (-1 : Int32) then
    chk (ck01 (0 : Int32)) <|
    some ((0 : Int32), σ2)
  else
    chk (ckO σ2 2 l0) <|
    chk (ckV (gR σ2 l0 4)) <|
    chk (ckT (gR σ2 l0 4) && ckT 1015) <|
    if (gR σ2 l0 4) = 1015 then
      chk (ckO σ2 2 l0) <|
      bnd (DX3_step l0 σ2) fun _ σ3 =>
      chk (ckO σ3 2 l0) <|
      bnd (DX3_takeCarrier l0 l1 σ3) fun v4 σ5 =>
      DX3_readProviso_135 l0 l1 l2 l3 l4 v1 v4 σ5
    else
      DX3_readProviso_135 l0 l1 l2 l3 l4 v1 (-2 : Int32) σ2
theorem tX3_readProviso_97 {r : Int32} {σ' : Sg} (C : Cx E p s m args meth c RX3 cX3_readProviso 7) (hr : meth.sig.returnType = (some .boolean)) {l0 : Nat} {l1 : Int32} {l2 : Int32} {l3 : Int32} {l4 : Int32} {s0 : Nat} {s1 : Int32} {s2 : Int32} {σ : Sg} (h : DX3_readProviso_97 l0 l1 l2 l3 l4 s0 s1 s2 σ = some (r, σ')) : Y E p l e (rmA 4 0 0) s m args below meth c (some (.int r)) σ' 0 0 7 0 0 σ 97 [some (.ref (ad E l0)), some (.int l1), some (.int l2), some (.int l3), some (.int l4), none, none] [.int s2, .int s1, .ref (ad E s0)] := by
  unfold DX3_readProviso_97 at h
  obtain ⟨k, h⟩ := chk_s h
  have k2 := k
  obtain ⟨v1, σ2, k, h⟩ := bnd_s h
  refine x_callV1 (pc := 97) C (mX3_takeNumber E l k) cl2 k2 cX3_212 nX3_takeNumber sX3_takeNumber rfl rfl (Nat.le_of_ble_eq_true rfl) ⟨Nat.le_of_ble_eq_true rfl, Nat.le_of_ble_eq_true rfl, Nat.le_of_ble_eq_true rfl, Nat.le_of_ble_eq_true rfl⟩ dX3_readProviso_97 ?_
  refine x_istore (M := [some _, some _, some _, some _, some _, some _, none]) (pc := 100) C dX3_readProviso_100 (by decide) rfl ?_
  refine x_iload (pc := 102) C dX3_readProviso_102 rfl ?_
  refine x_iconst (v := -1) (pc := 104) C dX3_readProviso_104 (by decide) ?_
  refine x_icmp_ne (pc := 105) (tgt := 110) C dX3_readProviso_105 (by decide) (fun q => ?_) (fun q => ?_)
  · rw [if_pos q] at h
    refine x_iconst (v := 0) (pc := 108) C dX3_readProviso_108 (by decide) ?_
    obtain ⟨kz, h⟩ := chk_s h
    cases h
    exact x_zret C hr (nar_01 kz) dX3_readProviso_109
  · rw [if_neg q] at h
    refine x_bipush (v := -2) (pc := 110) C dX3_readProviso_110 (by decide) ?_
    refine x_istore (M := [some _, some _, some _, some _, some _, some _, some _]) (pc := 112) C dX3_readProviso_112 (by decide) rfl ?_
    refine x_aload_n (pc := 114) C dX3_readProviso_114 rfl rfl ?_
    obtain ⟨k, h⟩ := chk_s h
    have k2 := k
    obtain ⟨k, h⟩ := chk_s h
    refine x_getR (pc := 115) C fX3_24 rfl k2 k dX3_readProviso_115 ?_
    refine x_getTok (pc := 118) C 15 (by decide) gX3_236 dX3_readProviso_118 ?_
    obtain ⟨k, h⟩ := chk_s h
    refine x_tcmp_ne (pc := 121) (tgt := 135) C k dX3_readProviso_121 (by decide) (fun q => ?_) (fun q => ?_)
    · rw [if_pos q] at h
      refine x_aload_n (pc := 124) C dX3_readProviso_124 rfl rfl ?_
      obtain ⟨k, h⟩ := chk_s h
      have k2 := k
      obtain ⟨u0, σ3, k, h⟩ := bnd_s h
      refine x_callV0 (pc := 125) C (mX3_step E l k) cl2 k2 cX3_65 nX3_step sX3_step rfl rfl (Nat.le_of_ble_eq_true rfl) ⟨Nat.le_of_ble_eq_true rfl, Nat.le_of_ble_eq_true rfl, Nat.le_of_ble_eq_true rfl, Nat.le_of_ble_eq_true rfl⟩ dX3_readProviso_125 ?_
      refine x_aload_n (pc := 128) C dX3_readProviso_128 rfl rfl ?_
      refine x_iload_n (pc := 129) C dX3_readProviso_129 rfl rfl ?_
      obtain ⟨k, h⟩ := chk_s h
      have k2 := k
      obtain ⟨v4, σ5, k, h⟩ := bnd_s h
      refine x_callV1 (pc := 130) C (mX3_takeCarrier E l k) cl2 k2 cX3_226 nX3_takeCarrier sX3_takeCarrier rfl rfl (Nat.le_of_ble_eq_true rfl) ⟨Nat.le_of_ble_eq_true rfl, Nat.le_of_ble_eq_true rfl, Nat.le_of_ble_eq_true rfl, Nat.le_of_ble_eq_true rfl⟩ dX3_readProviso_130 ?_
      refine x_istore (M := [some _, some _, some _, some _, some _, some _, some _]) (pc := 133) C dX3_readProviso_133 (by decide) rfl ?_
      exact x_sub (tX3_readProviso_135 C hr h) (xLe_s (xLe_s (xLe_s (xLe_s (xLe_s (xLe_s (xLe_s xLe_0)))))))
    · rw [if_neg q] at h
      exact x_sub (tX3_readProviso_135 C hr h) (xLe_s (xLe_s (xLe_s (xLe_s (xLe_s (xLe_s (xLe_s xLe_0)))))))
def DX3_readProviso_68 (l0 : Nat) (l1 : Int32) (l2 : Int32) (l3 : Int32) (σ : Sg) : Option (Int32 × Sg) :=
  chk (ckO σ 2 l0) <|
  bnd (DX3_takeKind l0 σ) fun v1 σ2 =>
  if v1 = (-1 : Int32) then
    chk (ck01 (0 : Int32)) <|
    some ((0 : Int32), σ2)
  else
    if v1 = (2 : Int32) then
      DX3_readProviso_97 l0 l1 l2 l3 v1 l0 (1 : Int32) (100 : Int32) σ2
    else
      DX3_readProviso_97 l0 l1 l2 l3 v1 l0 (1 : Int32) (999999 : Int32) σ2
theorem tX3_readProviso_68 {r : Int32} {σ' : Sg} (C : Cx E p s m args meth c RX3 cX3_readProviso 7) (hr : meth.sig.returnType = (some .boolean)) {l0 : Nat} {l1 : Int32} {l2 : Int32} {l3 : Int32} {σ : Sg} (h : DX3_readProviso_68 l0 l1 l2 l3 σ = some (r, σ')) : Y E p l e (rmA 4 0 0) s m args below meth c (some (.int r)) σ' 0 0 7 0 0 σ 68 [some (.ref (ad E l0)), some (.int l1), some (.int l2), some (.int l3), none, none, none] [] := by
  unfold DX3_readProviso_68 at h
  refine x_aload_n (pc := 68) C dX3_readProviso_68 rfl rfl ?_
  obtain ⟨k, h⟩ := chk_s h
  have k2 := k
  obtain ⟨v1, σ2, k, h⟩ := bnd_s h
  refine x_callV1 (pc := 69) C (mX3_takeKind E l k) cl2 k2 cX3_232 nX3_takeKind sX3_takeKind rfl rfl (Nat.le_of_ble_eq_true rfl) ⟨Nat.le_of_ble_eq_true rfl, Nat.le_of_ble_eq_true rfl, Nat.le_of_ble_eq_true rfl, Nat.le_of_ble_eq_true rfl⟩ dX3_readProviso_69 ?_
  refine x_istore (M := [some _, some _, some _, some _, some _, none, none]) (pc := 72) C dX3_readProviso_72 (by decide) rfl ?_
  refine x_iload (pc := 74) C dX3_readProviso_74 rfl ?_
  refine x_iconst (v := -1) (pc := 76) C dX3_readProviso_76 (by decide) ?_
  refine x_icmp_ne (pc := 77) (tgt := 82) C dX3_readProviso_77 (by decide) (fun q => ?_) (fun q => ?_)
  · rw [if_pos q] at h
    refine x_iconst (v := 0) (pc := 80) C dX3_readProviso_80 (by decide) ?_
    obtain ⟨kz, h⟩ := chk_s h
    cases h
    exact x_zret C hr (nar_01 kz) dX3_readProviso_81
  · rw [if_neg q] at h
    refine x_aload_n (pc := 82) C dX3_readProviso_82 rfl rfl ?_
    refine x_iconst (v := 1) (pc := 83) C dX3_readProviso_83 (by decide) ?_
    refine x_iload (pc := 84) C dX3_readProviso_84 rfl ?_
    refine x_iconst (v := 2) (pc := 86) C dX3_readProviso_86 (by decide) ?_
    refine x_icmp_ne (pc := 87) (tgt := 95) C dX3_readProviso_87 (by decide) (fun q => ?_) (fun q => ?_)
    · rw [if_pos q] at h
      refine x_bipush (v := 100) (pc := 90) C dX3_readProviso_90 (by decide) ?_
      refine x_goto (tgt := 97) (pc := 92) C dX3_readProviso_92 (by decide) ?_
      exact x_sub (tX3_readProviso_97 C hr h) (xLe_s (xLe_s (xLe_s (xLe_s (xLe_s (xLe_n (xLe_n xLe_0)))))))
    · rw [if_neg q] at h
      refine x_ldc (pc := 95) C kX3_235 dX3_readProviso_95 ?_
      exact x_sub (tX3_readProviso_97 C hr h) (xLe_s (xLe_s (xLe_s (xLe_s (xLe_s (xLe_n (xLe_n xLe_0)))))))
def DX3_readProviso_60 (l0 : Nat) (l1 : Int32) (l2 : Int32) (s0 : Int32) (σ : Sg) : Option (Int32 × Sg) :=
  if s0 = (-1 : Int32) then
    chk (ck01 (0 : Int32)) <|
    some ((0 : Int32), σ)
  else
    DX3_readProviso_68 l0 l1 l2 s0 σ
theorem tX3_readProviso_60 {r : Int32} {σ' : Sg} (C : Cx E p s m args meth c RX3 cX3_readProviso 7) (hr : meth.sig.returnType = (some .boolean)) {l0 : Nat} {l1 : Int32} {l2 : Int32} {s0 : Int32} {σ : Sg} (h : DX3_readProviso_60 l0 l1 l2 s0 σ = some (r, σ')) : Y E p l e (rmA 4 0 0) s m args below meth c (some (.int r)) σ' 0 0 7 0 0 σ 60 [some (.ref (ad E l0)), some (.int l1), some (.int l2), none, none, none, none] [.int s0] := by
  unfold DX3_readProviso_60 at h
  refine x_istore_n (M := [some _, some _, some _, some _, none, none, none]) (pc := 60) C dX3_readProviso_60 rfl (by decide) rfl ?_
  refine x_iload_n (pc := 61) C dX3_readProviso_61 rfl rfl ?_
  refine x_iconst (v := -1) (pc := 62) C dX3_readProviso_62 (by decide) ?_
  refine x_icmp_ne (pc := 63) (tgt := 68) C dX3_readProviso_63 (by decide) (fun q => ?_) (fun q => ?_)
  · rw [if_pos q] at h
    refine x_iconst (v := 0) (pc := 66) C dX3_readProviso_66 (by decide) ?_
    obtain ⟨kz, h⟩ := chk_s h
    cases h
    exact x_zret C hr (nar_01 kz) dX3_readProviso_67
  · rw [if_neg q] at h
    exact x_sub (tX3_readProviso_68 C hr h) (xLe_s (xLe_s (xLe_s (xLe_s (xLe_n (xLe_n (xLe_n xLe_0)))))))
def DX3_readProviso (l0 : Nat) (σ : Sg) : Option (Int32 × Sg) :=
  chk (ckO σ 2 l0) <|
  bnd (DX3_step l0 σ) fun _ σ1 =>
  chk (ckO σ1 2 l0) <|
  bnd (DX3_takeCarrier l0 (-1 : Int32) σ1) fun v2 σ3 =>
  if v2 = (-1 : Int32) then
    chk (ck01 (0 : Int32)) <|
    some ((0 : Int32), σ3)
  else
    chk (ckO σ3 2 l0) <|
    chk (ckV (gR σ3 l0 4)) <|
    chk (ckT (gR σ3 l0 4) && ckT 1010) <|
    if (gR σ3 l0 4) = 1010 then
      chk (ckO σ3 2 l0) <|
      bnd (DX3_step l0 σ3) fun _ σ4 =>
      DX3_readProviso_68 l0 v2 (-2 : Int32) (-2 : Int32) σ4
    else
      chk (ckO σ3 2 l0) <|
      bnd (DX3_takePlace l0 (-1 : Int32) σ3) fun v5 σ6 =>
      if v5 = (-1 : Int32) then
        DX3_readProviso_60 l0 v2 v5 (-1 : Int32) σ6
      else
        chk (ckO σ6 2 l0) <|
        bnd (DX3_takePlace l0 v5 σ6) fun v7 σ8 =>
        DX3_readProviso_60 l0 v2 v5 v7 σ8
theorem mX3_readProviso (E : Ev) (l : Launch) {l0 : Nat} {σ : Sg} {r : Int32} {σ' : Sg} (h : DX3_readProviso l0 σ = some (r, σ')) : Mt E l yX3_readProviso cX3_readProviso 7 (some .boolean) 4 0 0 [.ref (ad E l0)] σ (some (.int r)) σ' := by
  refine Mt.ofX (by decide) (Nat.le_of_ble_eq_true rfl) (L0 := [some (.ref (ad E l0)), none, none, none, none, none, none]) (xEntN_ok [.ref (ad E l0)] 7) (fun p e s m args below meth c C hr hn => ?_)
  unfold DX3_readProviso at h
  refine x_aload_n (pc := 0) C dX3_readProviso_0 rfl rfl ?_
  obtain ⟨k, h⟩ := chk_s h
  have k2 := k
  obtain ⟨u0, σ1, k, h⟩ := bnd_s h
  refine x_callV0 (pc := 1) C (mX3_step E l k) cl2 k2 cX3_65 nX3_step sX3_step rfl rfl (Nat.le_of_ble_eq_true rfl) ⟨Nat.le_of_ble_eq_true rfl, Nat.le_of_ble_eq_true rfl, Nat.le_of_ble_eq_true rfl, Nat.le_of_ble_eq_true rfl⟩ dX3_readProviso_1 ?_
  refine x_aload_n (pc := 4) C dX3_readProviso_4 rfl rfl ?_
  refine x_iconst (v := -1) (pc := 5) C dX3_readProviso_5 (by decide) ?_
  obtain ⟨k, h⟩ := chk_s h
  have k2 := k
  obtain ⟨v2, σ3, k, h⟩ := bnd_s h
  refine x_callV1 (pc := 6) C (mX3_takeCarrier E l k) cl2 k2 cX3_226 nX3_takeCarrier sX3_takeCarrier rfl rfl (Nat.le_of_ble_eq_true rfl) ⟨Nat.le_of_ble_eq_true rfl, Nat.le_of_ble_eq_true rfl, Nat.le_of_ble_eq_true rfl, Nat.le_of_ble_eq_true rfl⟩ dX3_readProviso_6 ?_
  refine x_istore_n (M := [some _, some _, none, none, none, none, none]) (pc := 9) C dX3_readProviso_9 rfl (by decide) rfl ?_
  refine x_iload_n (pc := 10) C dX3_readProviso_10 rfl rfl ?_
  refine x_iconst (v := -1) (pc := 11) C dX3_readProviso_11 (by decide) ?_
  refine x_icmp_ne (pc := 12) (tgt := 17) C dX3_readProviso_12 (by decide) (fun q => ?_) (fun q => ?_)
  · rw [if_pos q] at h
    refine x_iconst (v := 0) (pc := 15) C dX3_readProviso_15 (by decide) ?_
    obtain ⟨kz, h⟩ := chk_s h
    cases h
    exact x_zret C hr (nar_01 kz) dX3_readProviso_16
  · rw [if_neg q] at h
    refine x_bipush (v := -2) (pc := 17) C dX3_readProviso_17 (by decide) ?_
    refine x_istore_n (M := [some _, some _, some _, none, none, none, none]) (pc := 19) C dX3_readProviso_19 rfl (by decide) rfl ?_
    refine x_bipush (v := -2) (pc := 20) C dX3_readProviso_20 (by decide) ?_
    refine x_istore_n (M := [some _, some _, some _, some _, none, none, none]) (pc := 22) C dX3_readProviso_22 rfl (by decide) rfl ?_
    refine x_aload_n (pc := 23) C dX3_readProviso_23 rfl rfl ?_
    obtain ⟨k, h⟩ := chk_s h
    have k2 := k
    obtain ⟨k, h⟩ := chk_s h
    refine x_getR (pc := 24) C fX3_24 rfl k2 k dX3_readProviso_24 ?_
    refine x_getTok (pc := 27) C 10 (by decide) gX3_229 dX3_readProviso_27 ?_
    obtain ⟨k, h⟩ := chk_s h
    refine x_tcmp_ne (pc := 30) (tgt := 40) C k dX3_readProviso_30 (by decide) (fun q => ?_) (fun q => ?_)
    · rw [if_pos q] at h
      refine x_aload_n (pc := 33) C dX3_readProviso_33 rfl rfl ?_
      obtain ⟨k, h⟩ := chk_s h
      have k2 := k
      obtain ⟨u0, σ4, k, h⟩ := bnd_s h
      refine x_callV0 (pc := 34) C (mX3_step E l k) cl2 k2 cX3_65 nX3_step sX3_step rfl rfl (Nat.le_of_ble_eq_true rfl) ⟨Nat.le_of_ble_eq_true rfl, Nat.le_of_ble_eq_true rfl, Nat.le_of_ble_eq_true rfl, Nat.le_of_ble_eq_true rfl⟩ dX3_readProviso_34 ?_
      refine x_goto (tgt := 68) (pc := 37) C dX3_readProviso_37 (by decide) ?_
      exact x_sub (tX3_readProviso_68 C hr h) (xLe_s (xLe_s (xLe_s (xLe_s (xLe_n (xLe_n (xLe_n xLe_0)))))))
    · rw [if_neg q] at h
      refine x_aload_n (pc := 40) C dX3_readProviso_40 rfl rfl ?_
      refine x_iconst (v := -1) (pc := 41) C dX3_readProviso_41 (by decide) ?_
      obtain ⟨k, h⟩ := chk_s h
      have k2 := k
      obtain ⟨v5, σ6, k, h⟩ := bnd_s h
      refine x_callV1 (pc := 42) C (mX3_takePlace E l k) cl2 k2 cX3_201 nX3_takePlace sX3_takePlace rfl rfl (Nat.le_of_ble_eq_true rfl) ⟨Nat.le_of_ble_eq_true rfl, Nat.le_of_ble_eq_true rfl, Nat.le_of_ble_eq_true rfl, Nat.le_of_ble_eq_true rfl⟩ dX3_readProviso_42 ?_
      refine x_istore_n (M := [some _, some _, some _, some _, none, none, none]) (pc := 45) C dX3_readProviso_45 rfl (by decide) rfl ?_
      refine x_iload_n (pc := 46) C dX3_readProviso_46 rfl rfl ?_
      refine x_iconst (v := -1) (pc := 47) C dX3_readProviso_47 (by decide) ?_
      refine x_icmp_ne (pc := 48) (tgt := 55) C dX3_readProviso_48 (by decide) (fun q => ?_) (fun q => ?_)
      · rw [if_pos q] at h
        refine x_iconst (v := -1) (pc := 51) C dX3_readProviso_51 (by decide) ?_
        refine x_goto (tgt := 60) (pc := 52) C dX3_readProviso_52 (by decide) ?_
        exact x_sub (tX3_readProviso_60 C hr h) (xLe_s (xLe_s (xLe_s (xLe_n (xLe_n (xLe_n (xLe_n xLe_0)))))))
      · rw [if_neg q] at h
        refine x_aload_n (pc := 55) C dX3_readProviso_55 rfl rfl ?_
        refine x_iload_n (pc := 56) C dX3_readProviso_56 rfl rfl ?_
        obtain ⟨k, h⟩ := chk_s h
        have k2 := k
        obtain ⟨v7, σ8, k, h⟩ := bnd_s h
        refine x_callV1 (pc := 57) C (mX3_takePlace E l k) cl2 k2 cX3_201 nX3_takePlace sX3_takePlace rfl rfl (Nat.le_of_ble_eq_true rfl) ⟨Nat.le_of_ble_eq_true rfl, Nat.le_of_ble_eq_true rfl, Nat.le_of_ble_eq_true rfl, Nat.le_of_ble_eq_true rfl⟩ dX3_readProviso_57 ?_
        exact x_sub (tX3_readProviso_60 C hr h) (xLe_s (xLe_s (xLe_s (xLe_n (xLe_n (xLe_n (xLe_n xLe_0)))))))
def DX3_readBase (l0 : Nat) (σ : Sg) : Option (Int32 × Sg) :=
  chk (ckO σ 2 l0) <|
  bnd (DX3_step l0 σ) fun _ σ1 =>
  chk (ckO σ1 2 l0) <|
  bnd (DX3_takeCarrier l0 (-1 : Int32) σ1) fun v2 σ3 =>
  if v2 = (-1 : Int32) then
    chk (ck01 (0 : Int32)) <|
    some ((0 : Int32), σ3)
  else
    chk (ckO σ3 2 l0) <|
    bnd (DX3_takePlace l0 (-1 : Int32) σ3) fun v4 σ5 =>
    if v4 = (-1 : Int32) then
      chk (ck01 (0 : Int32)) <|
      some ((0 : Int32), σ5)
    else
      chk (ckO σ5 2 l0) <|
      bnd (DX3_takePlace l0 v4 σ5) fun v6 σ7 =>
      if v6 = (-1 : Int32) then
        chk (ck01 (0 : Int32)) <|
        some ((0 : Int32), σ7)
      else
        chk (ckO σ7 2 l0) <|
        chk (ckV (gR σ7 l0 1)) <|
        chk (ckO σ7 0 (gR σ7 l0 1)) <|
        bnd (DX1_baseOf (gR σ7 l0 1) v2 v4 v6 σ7) fun v8 σ9 =>
        if v8 = (-1 : Int32) then
          chk (ckO σ9 2 l0) <|
          bnd (DX3_takeNumber l0 (1 : Int32) (999999 : Int32) σ9) fun v10 σ11 =>
          if v10 = (-1 : Int32) then
            chk (ck01 (0 : Int32)) <|
            some ((0 : Int32), σ11)
          else
            chk (ckO σ11 2 l0) <|
            chk (ckV (gR σ11 l0 1)) <|
            chk (ckO σ11 0 (gR σ11 l0 1)) <|
            bnd (DX1_addBase (gR σ11 l0 1) v2 v4 v6 v10 σ11) fun _ σ12 =>
            chk (ckO σ12 2 l0) <|
            bnd (DX3_takeSemicolon l0 σ12) fun v13 σ14 =>
            chk (ck01 v13) <|
            some (v13, σ14)
        else
          chk (ckO σ9 2 l0) <|
          bnd (DX3_failTaken l0 (3 : Int32) σ9) fun v15 σ16 =>
          chk (ck01 v15) <|
          some (v15, σ16)
theorem mX3_readBase (E : Ev) (l : Launch) {l0 : Nat} {σ : Sg} {r : Int32} {σ' : Sg} (h : DX3_readBase l0 σ = some (r, σ')) : Mt E l yX3_readBase cX3_readBase 5 (some .boolean) 4 0 0 [.ref (ad E l0)] σ (some (.int r)) σ' := by
  refine Mt.ofX (by decide) (Nat.le_of_ble_eq_true rfl) (L0 := [some (.ref (ad E l0)), none, none, none, none]) (xEntN_ok [.ref (ad E l0)] 5) (fun p e s m args below meth c C hr hn => ?_)
  unfold DX3_readBase at h
  refine x_aload_n (pc := 0) C dX3_readBase_0 rfl rfl ?_
  obtain ⟨k, h⟩ := chk_s h
  have k2 := k
  obtain ⟨u0, σ1, k, h⟩ := bnd_s h
  refine x_callV0 (pc := 1) C (mX3_step E l k) cl2 k2 cX3_65 nX3_step sX3_step rfl rfl (Nat.le_of_ble_eq_true rfl) ⟨Nat.le_of_ble_eq_true rfl, Nat.le_of_ble_eq_true rfl, Nat.le_of_ble_eq_true rfl, Nat.le_of_ble_eq_true rfl⟩ dX3_readBase_1 ?_
  refine x_aload_n (pc := 4) C dX3_readBase_4 rfl rfl ?_
  refine x_iconst (v := -1) (pc := 5) C dX3_readBase_5 (by decide) ?_
  obtain ⟨k, h⟩ := chk_s h
  have k2 := k
  obtain ⟨v2, σ3, k, h⟩ := bnd_s h
  refine x_callV1 (pc := 6) C (mX3_takeCarrier E l k) cl2 k2 cX3_226 nX3_takeCarrier sX3_takeCarrier rfl rfl (Nat.le_of_ble_eq_true rfl) ⟨Nat.le_of_ble_eq_true rfl, Nat.le_of_ble_eq_true rfl, Nat.le_of_ble_eq_true rfl, Nat.le_of_ble_eq_true rfl⟩ dX3_readBase_6 ?_
  refine x_istore_n (M := [some _, some _, none, none, none]) (pc := 9) C dX3_readBase_9 rfl (by decide) rfl ?_
  refine x_iload_n (pc := 10) C dX3_readBase_10 rfl rfl ?_
  refine x_iconst (v := -1) (pc := 11) C dX3_readBase_11 (by decide) ?_
  refine x_icmp_ne (pc := 12) (tgt := 17) C dX3_readBase_12 (by decide) (fun q => ?_) (fun q => ?_)
  · rw [if_pos q] at h
    refine x_iconst (v := 0) (pc := 15) C dX3_readBase_15 (by decide) ?_
    obtain ⟨kz, h⟩ := chk_s h
    cases h
    exact x_zret C hr (nar_01 kz) dX3_readBase_16
  · rw [if_neg q] at h
    refine x_aload_n (pc := 17) C dX3_readBase_17 rfl rfl ?_
    refine x_iconst (v := -1) (pc := 18) C dX3_readBase_18 (by decide) ?_
    obtain ⟨k, h⟩ := chk_s h
    have k2 := k
    obtain ⟨v4, σ5, k, h⟩ := bnd_s h
    refine x_callV1 (pc := 19) C (mX3_takePlace E l k) cl2 k2 cX3_201 nX3_takePlace sX3_takePlace rfl rfl (Nat.le_of_ble_eq_true rfl) ⟨Nat.le_of_ble_eq_true rfl, Nat.le_of_ble_eq_true rfl, Nat.le_of_ble_eq_true rfl, Nat.le_of_ble_eq_true rfl⟩ dX3_readBase_19 ?_
    refine x_istore_n (M := [some _, some _, some _, none, none]) (pc := 22) C dX3_readBase_22 rfl (by decide) rfl ?_
    refine x_iload_n (pc := 23) C dX3_readBase_23 rfl rfl ?_
    refine x_iconst (v := -1) (pc := 24) C dX3_readBase_24 (by decide) ?_
    refine x_icmp_ne (pc := 25) (tgt := 30) C dX3_readBase_25 (by decide) (fun q => ?_) (fun q => ?_)
    · rw [if_pos q] at h
      refine x_iconst (v := 0) (pc := 28) C dX3_readBase_28 (by decide) ?_
      obtain ⟨kz, h⟩ := chk_s h
      cases h
      exact x_zret C hr (nar_01 kz) dX3_readBase_29
    · rw [if_neg q] at h
      refine x_aload_n (pc := 30) C dX3_readBase_30 rfl rfl ?_
      refine x_iload_n (pc := 31) C dX3_readBase_31 rfl rfl ?_
      obtain ⟨k, h⟩ := chk_s h
      have k2 := k
      obtain ⟨v6, σ7, k, h⟩ := bnd_s h
      refine x_callV1 (pc := 32) C (mX3_takePlace E l k) cl2 k2 cX3_201 nX3_takePlace sX3_takePlace rfl rfl (Nat.le_of_ble_eq_true rfl) ⟨Nat.le_of_ble_eq_true rfl, Nat.le_of_ble_eq_true rfl, Nat.le_of_ble_eq_true rfl, Nat.le_of_ble_eq_true rfl⟩ dX3_readBase_32 ?_
      refine x_istore_n (M := [some _, some _, some _, some _, none]) (pc := 35) C dX3_readBase_35 rfl (by decide) rfl ?_
      refine x_iload_n (pc := 36) C dX3_readBase_36 rfl rfl ?_
      refine x_iconst (v := -1) (pc := 37) C dX3_readBase_37 (by decide) ?_
      refine x_icmp_ne (pc := 38) (tgt := 43) C dX3_readBase_38 (by decide) (fun q => ?_) (fun q => ?_)
      · rw [if_pos q] at h
        refine x_iconst (v := 0) (pc := 41) C dX3_readBase_41 (by decide) ?_
        obtain ⟨kz, h⟩ := chk_s h
        cases h
        exact x_zret C hr (nar_01 kz) dX3_readBase_42
      · rw [if_neg q] at h
        refine x_aload_n (pc := 43) C dX3_readBase_43 rfl rfl ?_
        obtain ⟨k, h⟩ := chk_s h
        have k2 := k
        obtain ⟨k, h⟩ := chk_s h
        refine x_getR (pc := 44) C fX3_50 rfl k2 k dX3_readBase_44 ?_
        refine x_iload_n (pc := 47) C dX3_readBase_47 rfl rfl ?_
        refine x_iload_n (pc := 48) C dX3_readBase_48 rfl rfl ?_
        refine x_iload_n (pc := 49) C dX3_readBase_49 rfl rfl ?_
        obtain ⟨k, h⟩ := chk_s h
        have k2 := k
        obtain ⟨v8, σ9, k, h⟩ := bnd_s h
        refine x_callV1 (pc := 50) C (mX1_baseOf E l k) cl0 k2 cX3_243 nX1_baseOf sX1_baseOf rfl rfl (Nat.le_of_ble_eq_true rfl) ⟨Nat.le_of_ble_eq_true rfl, Nat.le_of_ble_eq_true rfl, Nat.le_of_ble_eq_true rfl, Nat.le_of_ble_eq_true rfl⟩ dX3_readBase_50 ?_
        refine x_iconst (v := -1) (pc := 53) C dX3_readBase_53 (by decide) ?_
        refine x_icmp_eq (pc := 54) (tgt := 63) C dX3_readBase_54 (by decide) (fun q => ?_) (fun q => ?_)
        · rw [if_pos q] at h
          refine x_aload_n (pc := 63) C dX3_readBase_63 rfl rfl ?_
          refine x_iconst (v := 1) (pc := 64) C dX3_readBase_64 (by decide) ?_
          refine x_ldc (pc := 65) C kX3_235 dX3_readBase_65 ?_
          obtain ⟨k, h⟩ := chk_s h
          have k2 := k
          obtain ⟨v10, σ11, k, h⟩ := bnd_s h
          refine x_callV1 (pc := 67) C (mX3_takeNumber E l k) cl2 k2 cX3_212 nX3_takeNumber sX3_takeNumber rfl rfl (Nat.le_of_ble_eq_true rfl) ⟨Nat.le_of_ble_eq_true rfl, Nat.le_of_ble_eq_true rfl, Nat.le_of_ble_eq_true rfl, Nat.le_of_ble_eq_true rfl⟩ dX3_readBase_67 ?_
          refine x_istore (M := [some _, some _, some _, some _, some _]) (pc := 70) C dX3_readBase_70 (by decide) rfl ?_
          refine x_iload (pc := 72) C dX3_readBase_72 rfl ?_
          refine x_iconst (v := -1) (pc := 74) C dX3_readBase_74 (by decide) ?_
          refine x_icmp_ne (pc := 75) (tgt := 80) C dX3_readBase_75 (by decide) (fun q => ?_) (fun q => ?_)
          · rw [if_pos q] at h
            refine x_iconst (v := 0) (pc := 78) C dX3_readBase_78 (by decide) ?_
            obtain ⟨kz, h⟩ := chk_s h
            cases h
            exact x_zret C hr (nar_01 kz) dX3_readBase_79
          · rw [if_neg q] at h
            refine x_aload_n (pc := 80) C dX3_readBase_80 rfl rfl ?_
            obtain ⟨k, h⟩ := chk_s h
            have k2 := k
            obtain ⟨k, h⟩ := chk_s h
            refine x_getR (pc := 81) C fX3_50 rfl k2 k dX3_readBase_81 ?_
            refine x_iload_n (pc := 84) C dX3_readBase_84 rfl rfl ?_
            refine x_iload_n (pc := 85) C dX3_readBase_85 rfl rfl ?_
            refine x_iload_n (pc := 86) C dX3_readBase_86 rfl rfl ?_
            refine x_iload (pc := 87) C dX3_readBase_87 rfl ?_
            obtain ⟨k, h⟩ := chk_s h
            have k2 := k
            obtain ⟨u0, σ12, k, h⟩ := bnd_s h
            refine x_callV0 (pc := 89) C (mX1_addBase E l k) cl0 k2 cX3_247 nX1_addBase sX1_addBase rfl rfl (Nat.le_of_ble_eq_true rfl) ⟨Nat.le_of_ble_eq_true rfl, Nat.le_of_ble_eq_true rfl, Nat.le_of_ble_eq_true rfl, Nat.le_of_ble_eq_true rfl⟩ dX3_readBase_89 ?_
            refine x_aload_n (pc := 92) C dX3_readBase_92 rfl rfl ?_
            obtain ⟨k, h⟩ := chk_s h
            have k2 := k
            obtain ⟨v13, σ14, k, h⟩ := bnd_s h
            refine x_callV1 (pc := 93) C (mX3_takeSemicolon E l k) cl2 k2 cX3_195 nX3_takeSemicolon sX3_takeSemicolon rfl rfl (Nat.le_of_ble_eq_true rfl) ⟨Nat.le_of_ble_eq_true rfl, Nat.le_of_ble_eq_true rfl, Nat.le_of_ble_eq_true rfl, Nat.le_of_ble_eq_true rfl⟩ dX3_readBase_93 ?_
            obtain ⟨kz, h⟩ := chk_s h
            cases h
            exact x_zret C hr (nar_01 kz) dX3_readBase_96
        · rw [if_neg q] at h
          refine x_aload_n (pc := 57) C dX3_readBase_57 rfl rfl ?_
          refine x_iconst (v := 3) (pc := 58) C dX3_readBase_58 (by decide) ?_
          obtain ⟨k, h⟩ := chk_s h
          have k2 := k
          obtain ⟨v15, σ16, k, h⟩ := bnd_s h
          refine x_callV1 (pc := 59) C (mX3_failTaken E l k) cl2 k2 cX3_209 nX3_failTaken sX3_failTaken rfl rfl (Nat.le_of_ble_eq_true rfl) ⟨Nat.le_of_ble_eq_true rfl, Nat.le_of_ble_eq_true rfl, Nat.le_of_ble_eq_true rfl, Nat.le_of_ble_eq_true rfl⟩ dX3_readBase_59 ?_
          obtain ⟨kz, h⟩ := chk_s h
          cases h
          exact x_zret C hr (nar_01 kz) dX3_readBase_62
def DX3_readRate (l0 : Nat) (σ : Sg) : Option (Int32 × Sg) :=
  chk (ckO σ 2 l0) <|
  bnd (DX3_step l0 σ) fun _ σ1 =>
  chk (ckO σ1 2 l0) <|
  bnd (DX3_takeNumber l0 (1 : Int32) (99 : Int32) σ1) fun v2 σ3 =>
  if v2 = (-1 : Int32) then
    chk (ck01 (0 : Int32)) <|
    some ((0 : Int32), σ3)
  else
    chk (ckO σ3 2 l0) <|
    chk (ckV (gR σ3 l0 1)) <|
    chk (ckO σ3 0 (gR σ3 l0 1)) <|
    wlet (pI σ3 (gR σ3 l0 1) 7 v2) fun σ4 =>
    chk (ckO σ4 2 l0) <|
    chk (ckV (gR σ4 l0 1)) <|
    chk (ckO σ4 0 (gR σ4 l0 1)) <|
    chk (ck01 (1 : Int32)) <|
    wlet (pI σ4 (gR σ4 l0 1) 8 (1 : Int32)) fun σ5 =>
    chk (ckO σ5 2 l0) <|
    bnd (DX3_takeSemicolon l0 σ5) fun v6 σ7 =>
    chk (ck01 v6) <|
    some (v6, σ7)
theorem mX3_readRate (E : Ev) (l : Launch) {l0 : Nat} {σ : Sg} {r : Int32} {σ' : Sg} (h : DX3_readRate l0 σ = some (r, σ')) : Mt E l yX3_readRate cX3_readRate 2 (some .boolean) 4 0 0 [.ref (ad E l0)] σ (some (.int r)) σ' := by
  refine Mt.ofX (by decide) (Nat.le_of_ble_eq_true rfl) (L0 := [some (.ref (ad E l0)), none]) (xEntN_ok [.ref (ad E l0)] 2) (fun p e s m args below meth c C hr hn => ?_)
  unfold DX3_readRate at h
  refine x_aload_n (pc := 0) C dX3_readRate_0 rfl rfl ?_
  obtain ⟨k, h⟩ := chk_s h
  have k2 := k
  obtain ⟨u0, σ1, k, h⟩ := bnd_s h
  refine x_callV0 (pc := 1) C (mX3_step E l k) cl2 k2 cX3_65 nX3_step sX3_step rfl rfl (Nat.le_of_ble_eq_true rfl) ⟨Nat.le_of_ble_eq_true rfl, Nat.le_of_ble_eq_true rfl, Nat.le_of_ble_eq_true rfl, Nat.le_of_ble_eq_true rfl⟩ dX3_readRate_1 ?_
  refine x_aload_n (pc := 4) C dX3_readRate_4 rfl rfl ?_
  refine x_iconst (v := 1) (pc := 5) C dX3_readRate_5 (by decide) ?_
  refine x_bipush (v := 99) (pc := 6) C dX3_readRate_6 (by decide) ?_
  obtain ⟨k, h⟩ := chk_s h
  have k2 := k
  obtain ⟨v2, σ3, k, h⟩ := bnd_s h
  refine x_callV1 (pc := 8) C (mX3_takeNumber E l k) cl2 k2 cX3_212 nX3_takeNumber sX3_takeNumber rfl rfl (Nat.le_of_ble_eq_true rfl) ⟨Nat.le_of_ble_eq_true rfl, Nat.le_of_ble_eq_true rfl, Nat.le_of_ble_eq_true rfl, Nat.le_of_ble_eq_true rfl⟩ dX3_readRate_8 ?_
  refine x_istore_n (M := [some _, some _]) (pc := 11) C dX3_readRate_11 rfl (by decide) rfl ?_
  refine x_iload_n (pc := 12) C dX3_readRate_12 rfl rfl ?_
  refine x_iconst (v := -1) (pc := 13) C dX3_readRate_13 (by decide) ?_
  refine x_icmp_ne (pc := 14) (tgt := 19) C dX3_readRate_14 (by decide) (fun q => ?_) (fun q => ?_)
  · rw [if_pos q] at h
    refine x_iconst (v := 0) (pc := 17) C dX3_readRate_17 (by decide) ?_
    obtain ⟨kz, h⟩ := chk_s h
    cases h
    exact x_zret C hr (nar_01 kz) dX3_readRate_18
  · rw [if_neg q] at h
    refine x_aload_n (pc := 19) C dX3_readRate_19 rfl rfl ?_
    obtain ⟨k, h⟩ := chk_s h
    have k2 := k
    obtain ⟨k, h⟩ := chk_s h
    refine x_getR (pc := 20) C fX3_50 rfl k2 k dX3_readRate_20 ?_
    refine x_iload_n (pc := 23) C dX3_readRate_23 rfl rfl ?_
    obtain ⟨k, h⟩ := chk_s h
    obtain ⟨σ4, e1, h⟩ := wlet_s h
    refine x_putI (pc := 24) C pX3_251 rfl k dX3_readRate_24 (x_eq e1 ?_)
    refine x_aload_n (pc := 27) C dX3_readRate_27 rfl rfl ?_
    obtain ⟨k, h⟩ := chk_s h
    have k2 := k
    obtain ⟨k, h⟩ := chk_s h
    refine x_getR (pc := 28) C fX3_50 rfl k2 k dX3_readRate_28 ?_
    refine x_iconst (v := 1) (pc := 31) C dX3_readRate_31 (by decide) ?_
    obtain ⟨k, h⟩ := chk_s h
    have k2 := k
    obtain ⟨k, h⟩ := chk_s h
    obtain ⟨σ5, e1, h⟩ := wlet_s h
    refine x_putZ (pc := 32) C pX3_150 rfl k2 k dX3_readRate_32 (x_eq e1 ?_)
    refine x_aload_n (pc := 35) C dX3_readRate_35 rfl rfl ?_
    obtain ⟨k, h⟩ := chk_s h
    have k2 := k
    obtain ⟨v6, σ7, k, h⟩ := bnd_s h
    refine x_callV1 (pc := 36) C (mX3_takeSemicolon E l k) cl2 k2 cX3_195 nX3_takeSemicolon sX3_takeSemicolon rfl rfl (Nat.le_of_ble_eq_true rfl) ⟨Nat.le_of_ble_eq_true rfl, Nat.le_of_ble_eq_true rfl, Nat.le_of_ble_eq_true rfl, Nat.le_of_ble_eq_true rfl⟩ dX3_readRate_36 ?_
    obtain ⟨kz, h⟩ := chk_s h
    cases h
    exact x_zret C hr (nar_01 kz) dX3_readRate_39
def DX3_takeHow_43 (l0 : Nat) (s0 : Int32) (σ : Sg) : Option (Int32 × Sg) :=
  chk (ckO σ 2 l0) <|
  bnd (DX3_step l0 σ) fun _ σ1 =>
  some (s0, σ1)
theorem tX3_takeHow_43 {r : Int32} {σ' : Sg} (C : Cx E p s m args meth c RX3 cX3_takeHow 2) (hr : meth.sig.returnType = (some .int)) {l0 : Nat} {s0 : Int32} {σ : Sg} (h : DX3_takeHow_43 l0 s0 σ = some (r, σ')) : Y E p l e (rmA 3 0 0) s m args below meth c (some (.int r)) σ' 0 0 2 0 0 σ 43 [some (.ref (ad E l0)), none] [.int s0] := by
  unfold DX3_takeHow_43 at h
  refine x_istore_n (M := [some _, some _]) (pc := 43) C dX3_takeHow_43 rfl (by decide) rfl ?_
  refine x_aload_n (pc := 44) C dX3_takeHow_44 rfl rfl ?_
  obtain ⟨k, h⟩ := chk_s h
  have k2 := k
  obtain ⟨u0, σ1, k, h⟩ := bnd_s h
  refine x_callV0 (pc := 45) C (mX3_step E l k) cl2 k2 cX3_65 nX3_step sX3_step rfl rfl (Nat.le_of_ble_eq_true rfl) ⟨Nat.le_of_ble_eq_true rfl, Nat.le_of_ble_eq_true rfl, Nat.le_of_ble_eq_true rfl, Nat.le_of_ble_eq_true rfl⟩ dX3_takeHow_45 ?_
  refine x_iload_n (pc := 48) C dX3_takeHow_48 rfl rfl ?_
  cases h
  exact x_iret C hr dX3_takeHow_49
def DX3_takeHow_28 (l0 : Nat) (σ : Sg) : Option (Int32 × Sg) :=
  chk (ckO σ 2 l0) <|
  chk (ckV (gR σ l0 4)) <|
  chk (ckT (gR σ l0 4) && ckT 1019) <|
  if (gR σ l0 4) = 1019 then
    DX3_takeHow_43 l0 (0 : Int32) σ
  else
    DX3_takeHow_43 l0 (1 : Int32) σ
theorem tX3_takeHow_28 {r : Int32} {σ' : Sg} (C : Cx E p s m args meth c RX3 cX3_takeHow 2) (hr : meth.sig.returnType = (some .int)) {l0 : Nat} {σ : Sg} (h : DX3_takeHow_28 l0 σ = some (r, σ')) : Y E p l e (rmA 3 0 0) s m args below meth c (some (.int r)) σ' 0 0 2 0 0 σ 28 [some (.ref (ad E l0)), none] [] := by
  unfold DX3_takeHow_28 at h
  refine x_aload_n (pc := 28) C dX3_takeHow_28 rfl rfl ?_
  obtain ⟨k, h⟩ := chk_s h
  have k2 := k
  obtain ⟨k, h⟩ := chk_s h
  refine x_getR (pc := 29) C fX3_24 rfl k2 k dX3_takeHow_29 ?_
  refine x_getTok (pc := 32) C 19 (by decide) gX3_181 dX3_takeHow_32 ?_
  obtain ⟨k, h⟩ := chk_s h
  refine x_tcmp_ne (pc := 35) (tgt := 42) C k dX3_takeHow_35 (by decide) (fun q => ?_) (fun q => ?_)
  · rw [if_pos q] at h
    refine x_iconst (v := 0) (pc := 38) C dX3_takeHow_38 (by decide) ?_
    refine x_goto (tgt := 43) (pc := 39) C dX3_takeHow_39 (by decide) ?_
    exact x_sub (tX3_takeHow_43 C hr h) (xLe_s (xLe_n xLe_0))
  · rw [if_neg q] at h
    refine x_iconst (v := 1) (pc := 42) C dX3_takeHow_42 (by decide) ?_
    exact x_sub (tX3_takeHow_43 C hr h) (xLe_s (xLe_n xLe_0))
def DX3_takeHow (l0 : Nat) (σ : Sg) : Option (Int32 × Sg) :=
  chk (ckO σ 2 l0) <|
  chk (ckV (gR σ l0 4)) <|
  chk (ckT (gR σ l0 4) && ckT 1019) <|
  if (gR σ l0 4) = 1019 then
    DX3_takeHow_28 l0 σ
  else
    chk (ckO σ 2 l0) <|
    chk (ckV (gR σ l0 4)) <|
    chk (ckT (gR σ l0 4) && ckT 1016) <|
    if (gR σ l0 4) = 1016 then
      DX3_takeHow_28 l0 σ
    else
      chk (ckO σ 2 l0) <|
      bnd (DX3_failHere l0 (1 : Int32) σ) fun v1 σ2 =>
      some ((-1 : Int32), σ2)
theorem mX3_takeHow (E : Ev) (l : Launch) {l0 : Nat} {σ : Sg} {r : Int32} {σ' : Sg} (h : DX3_takeHow l0 σ = some (r, σ')) : Mt E l yX3_takeHow cX3_takeHow 2 (some .int) 3 0 0 [.ref (ad E l0)] σ (some (.int r)) σ' := by
  refine Mt.ofX (by decide) (Nat.le_of_ble_eq_true rfl) (L0 := [some (.ref (ad E l0)), none]) (xEntN_ok [.ref (ad E l0)] 2) (fun p e s m args below meth c C hr hn => ?_)
  unfold DX3_takeHow at h
  refine x_aload_n (pc := 0) C dX3_takeHow_0 rfl rfl ?_
  obtain ⟨k, h⟩ := chk_s h
  have k2 := k
  obtain ⟨k, h⟩ := chk_s h
  refine x_getR (pc := 1) C fX3_24 rfl k2 k dX3_takeHow_1 ?_
  refine x_getTok (pc := 4) C 19 (by decide) gX3_181 dX3_takeHow_4 ?_
  obtain ⟨k, h⟩ := chk_s h
  refine x_tcmp_eq (pc := 7) (tgt := 28) C k dX3_takeHow_7 (by decide) (fun q => ?_) (fun q => ?_)
  · rw [if_pos q] at h
    exact x_sub (tX3_takeHow_28 C hr h) (xLe_s (xLe_n xLe_0))
  · rw [if_neg q] at h
    refine x_aload_n (pc := 10) C dX3_takeHow_10 rfl rfl ?_
    obtain ⟨k, h⟩ := chk_s h
    have k2 := k
    obtain ⟨k, h⟩ := chk_s h
    refine x_getR (pc := 11) C fX3_24 rfl k2 k dX3_takeHow_11 ?_
    refine x_getTok (pc := 14) C 16 (by decide) gX3_184 dX3_takeHow_14 ?_
    obtain ⟨k, h⟩ := chk_s h
    refine x_tcmp_eq (pc := 17) (tgt := 28) C k dX3_takeHow_17 (by decide) (fun q => ?_) (fun q => ?_)
    · rw [if_pos q] at h
      exact x_sub (tX3_takeHow_28 C hr h) (xLe_s (xLe_n xLe_0))
    · rw [if_neg q] at h
      refine x_aload_n (pc := 20) C dX3_takeHow_20 rfl rfl ?_
      refine x_iconst (v := 1) (pc := 21) C dX3_takeHow_21 (by decide) ?_
      obtain ⟨k, h⟩ := chk_s h
      have k2 := k
      obtain ⟨v1, σ2, k, h⟩ := bnd_s h
      refine x_callV1 (pc := 22) C (mX3_failHere E l k) cl2 k2 cX3_116 nX3_failHere sX3_failHere rfl rfl (Nat.le_of_ble_eq_true rfl) ⟨Nat.le_of_ble_eq_true rfl, Nat.le_of_ble_eq_true rfl, Nat.le_of_ble_eq_true rfl, Nat.le_of_ble_eq_true rfl⟩ dX3_takeHow_22 ?_
      refine x_pop (pc := 25) C dX3_takeHow_25 rfl ?_
      refine x_iconst (v := -1) (pc := 26) C dX3_takeHow_26 (by decide) ?_
      cases h
      exact x_iret C hr dX3_takeHow_27
def DX3_readCoupon (l0 : Nat) (l1 : Int32) (l2 : Int32) (σ : Sg) : Option (Int32 × Sg) :=
  chk (ckO σ 2 l0) <|
  bnd (DX3_takeCarrier l0 (-1 : Int32) σ) fun v1 σ2 =>
  if v1 = (-1 : Int32) then
    some ((-1 : Int32), σ2)
  else
    if l1 < (8 : Int32) then
      chk (ckO σ2 2 l0) <|
      bnd (DX3_takePlace l0 l2 σ2) fun v3 σ4 =>
      if v3 = (-1 : Int32) then
        some ((-1 : Int32), σ4)
      else
        chk (ckO σ4 2 l0) <|
        chk (ckV (gR σ4 l0 1)) <|
        chk (ckO σ4 0 (gR σ4 l0 1)) <|
        bnd (DX1_hasWay (gR σ4 l0 1) l2 v3 σ4) fun v5 σ6 =>
        if v5 = 0 then
          chk (ckO σ6 2 l0) <|
          bnd (DX3_failTaken l0 (1 : Int32) σ6) fun v7 σ8 =>
          some ((-1 : Int32), σ8)
        else
          chk (ckO σ6 2 l0) <|
          chk (ckV (gR σ6 l0 1)) <|
          chk (ckO σ6 0 (gR σ6 l0 1)) <|
          bnd (DX1_addCoupon (gR σ6 l0 1) l1 v1 v3 σ6) fun _ σ9 =>
          some (v3, σ9)
    else
      chk (ckO σ2 2 l0) <|
      bnd (DX3_failTaken l0 (2 : Int32) σ2) fun v10 σ11 =>
      some ((-1 : Int32), σ11)
theorem mX3_readCoupon (E : Ev) (l : Launch) {l0 : Nat} {l1 : Int32} {l2 : Int32} {σ : Sg} {r : Int32} {σ' : Sg} (h : DX3_readCoupon l0 l1 l2 σ = some (r, σ')) : Mt E l yX3_readCoupon cX3_readCoupon 5 (some .int) 4 0 0 [.ref (ad E l0), .int l1, .int l2] σ (some (.int r)) σ' := by
  refine Mt.ofX (by decide) (Nat.le_of_ble_eq_true rfl) (L0 := [some (.ref (ad E l0)), some (.int l1), some (.int l2), none, none]) (xEntN_ok [.ref (ad E l0), .int l1, .int l2] 5) (fun p e s m args below meth c C hr hn => ?_)
  unfold DX3_readCoupon at h
  refine x_aload_n (pc := 0) C dX3_readCoupon_0 rfl rfl ?_
  refine x_iconst (v := -1) (pc := 1) C dX3_readCoupon_1 (by decide) ?_
  obtain ⟨k, h⟩ := chk_s h
  have k2 := k
  obtain ⟨v1, σ2, k, h⟩ := bnd_s h
  refine x_callV1 (pc := 2) C (mX3_takeCarrier E l k) cl2 k2 cX3_226 nX3_takeCarrier sX3_takeCarrier rfl rfl (Nat.le_of_ble_eq_true rfl) ⟨Nat.le_of_ble_eq_true rfl, Nat.le_of_ble_eq_true rfl, Nat.le_of_ble_eq_true rfl, Nat.le_of_ble_eq_true rfl⟩ dX3_readCoupon_2 ?_
  refine x_istore_n (M := [some _, some _, some _, some _, none]) (pc := 5) C dX3_readCoupon_5 rfl (by decide) rfl ?_
  refine x_iload_n (pc := 6) C dX3_readCoupon_6 rfl rfl ?_
  refine x_iconst (v := -1) (pc := 7) C dX3_readCoupon_7 (by decide) ?_
  refine x_icmp_ne (pc := 8) (tgt := 13) C dX3_readCoupon_8 (by decide) (fun q => ?_) (fun q => ?_)
  · rw [if_pos q] at h
    refine x_iconst (v := -1) (pc := 11) C dX3_readCoupon_11 (by decide) ?_
    cases h
    exact x_iret C hr dX3_readCoupon_12
  · rw [if_neg q] at h
    refine x_iload_n (pc := 13) C dX3_readCoupon_13 rfl rfl ?_
    refine x_bipush (v := 8) (pc := 14) C dX3_readCoupon_14 (by decide) ?_
    refine x_icmp_lt (pc := 16) (tgt := 27) C dX3_readCoupon_16 (by decide) (fun q => ?_) (fun q => ?_)
    · rw [if_pos q] at h
      refine x_aload_n (pc := 27) C dX3_readCoupon_27 rfl rfl ?_
      refine x_iload_n (pc := 28) C dX3_readCoupon_28 rfl rfl ?_
      obtain ⟨k, h⟩ := chk_s h
      have k2 := k
      obtain ⟨v3, σ4, k, h⟩ := bnd_s h
      refine x_callV1 (pc := 29) C (mX3_takePlace E l k) cl2 k2 cX3_201 nX3_takePlace sX3_takePlace rfl rfl (Nat.le_of_ble_eq_true rfl) ⟨Nat.le_of_ble_eq_true rfl, Nat.le_of_ble_eq_true rfl, Nat.le_of_ble_eq_true rfl, Nat.le_of_ble_eq_true rfl⟩ dX3_readCoupon_29 ?_
      refine x_istore (M := [some _, some _, some _, some _, some _]) (pc := 32) C dX3_readCoupon_32 (by decide) rfl ?_
      refine x_iload (pc := 34) C dX3_readCoupon_34 rfl ?_
      refine x_iconst (v := -1) (pc := 36) C dX3_readCoupon_36 (by decide) ?_
      refine x_icmp_ne (pc := 37) (tgt := 42) C dX3_readCoupon_37 (by decide) (fun q => ?_) (fun q => ?_)
      · rw [if_pos q] at h
        refine x_iconst (v := -1) (pc := 40) C dX3_readCoupon_40 (by decide) ?_
        cases h
        exact x_iret C hr dX3_readCoupon_41
      · rw [if_neg q] at h
        refine x_aload_n (pc := 42) C dX3_readCoupon_42 rfl rfl ?_
        obtain ⟨k, h⟩ := chk_s h
        have k2 := k
        obtain ⟨k, h⟩ := chk_s h
        refine x_getR (pc := 43) C fX3_50 rfl k2 k dX3_readCoupon_43 ?_
        refine x_iload_n (pc := 46) C dX3_readCoupon_46 rfl rfl ?_
        refine x_iload (pc := 47) C dX3_readCoupon_47 rfl ?_
        obtain ⟨k, h⟩ := chk_s h
        have k2 := k
        obtain ⟨v5, σ6, k, h⟩ := bnd_s h
        refine x_callV1 (pc := 49) C (mX1_hasWay E l k) cl0 k2 cX3_267 nX1_hasWay sX1_hasWay rfl rfl (Nat.le_of_ble_eq_true rfl) ⟨Nat.le_of_ble_eq_true rfl, Nat.le_of_ble_eq_true rfl, Nat.le_of_ble_eq_true rfl, Nat.le_of_ble_eq_true rfl⟩ dX3_readCoupon_49 ?_
        refine x_if_ne (pc := 52) (tgt := 63) C dX3_readCoupon_52 (by decide) (fun q => ?_) (fun q => ?_)
        · rw [if_pos q] at h
          refine x_aload_n (pc := 55) C dX3_readCoupon_55 rfl rfl ?_
          refine x_iconst (v := 1) (pc := 56) C dX3_readCoupon_56 (by decide) ?_
          obtain ⟨k, h⟩ := chk_s h
          have k2 := k
          obtain ⟨v7, σ8, k, h⟩ := bnd_s h
          refine x_callV1 (pc := 57) C (mX3_failTaken E l k) cl2 k2 cX3_209 nX3_failTaken sX3_failTaken rfl rfl (Nat.le_of_ble_eq_true rfl) ⟨Nat.le_of_ble_eq_true rfl, Nat.le_of_ble_eq_true rfl, Nat.le_of_ble_eq_true rfl, Nat.le_of_ble_eq_true rfl⟩ dX3_readCoupon_57 ?_
          refine x_pop (pc := 60) C dX3_readCoupon_60 rfl ?_
          refine x_iconst (v := -1) (pc := 61) C dX3_readCoupon_61 (by decide) ?_
          cases h
          exact x_iret C hr dX3_readCoupon_62
        · rw [if_neg q] at h
          refine x_aload_n (pc := 63) C dX3_readCoupon_63 rfl rfl ?_
          obtain ⟨k, h⟩ := chk_s h
          have k2 := k
          obtain ⟨k, h⟩ := chk_s h
          refine x_getR (pc := 64) C fX3_50 rfl k2 k dX3_readCoupon_64 ?_
          refine x_iload_n (pc := 67) C dX3_readCoupon_67 rfl rfl ?_
          refine x_iload_n (pc := 68) C dX3_readCoupon_68 rfl rfl ?_
          refine x_iload (pc := 69) C dX3_readCoupon_69 rfl ?_
          obtain ⟨k, h⟩ := chk_s h
          have k2 := k
          obtain ⟨u0, σ9, k, h⟩ := bnd_s h
          refine x_callV0 (pc := 71) C (mX1_addCoupon E l k) cl0 k2 cX3_270 nX1_addCoupon sX1_addCoupon rfl rfl (Nat.le_of_ble_eq_true rfl) ⟨Nat.le_of_ble_eq_true rfl, Nat.le_of_ble_eq_true rfl, Nat.le_of_ble_eq_true rfl, Nat.le_of_ble_eq_true rfl⟩ dX3_readCoupon_71 ?_
          refine x_iload (pc := 74) C dX3_readCoupon_74 rfl ?_
          cases h
          exact x_iret C hr dX3_readCoupon_76
    · rw [if_neg q] at h
      refine x_aload_n (pc := 19) C dX3_readCoupon_19 rfl rfl ?_
      refine x_iconst (v := 2) (pc := 20) C dX3_readCoupon_20 (by decide) ?_
      obtain ⟨k, h⟩ := chk_s h
      have k2 := k
      obtain ⟨v10, σ11, k, h⟩ := bnd_s h
      refine x_callV1 (pc := 21) C (mX3_failTaken E l k) cl2 k2 cX3_209 nX3_failTaken sX3_failTaken rfl rfl (Nat.le_of_ble_eq_true rfl) ⟨Nat.le_of_ble_eq_true rfl, Nat.le_of_ble_eq_true rfl, Nat.le_of_ble_eq_true rfl, Nat.le_of_ble_eq_true rfl⟩ dX3_readCoupon_21 ?_
      refine x_pop (pc := 24) C dX3_readCoupon_24 rfl ?_
      refine x_iconst (v := -1) (pc := 25) C dX3_readCoupon_25 (by decide) ?_
      cases h
      exact x_iret C hr dX3_readCoupon_26
def DX3_readTicket_98 (l0 : Nat) (l1 : Int64) (σ : Sg) : Option (Int32 × Sg) :=
  chk (ckO σ 2 l0) <|
  chk (ckV (gR σ l0 1)) <|
  chk (ckO σ 0 (gR σ l0 1)) <|
  bnd (DX1_endTicket (gR σ l0 1) l1 σ) fun _ σ1 =>
  chk (ckO σ1 2 l0) <|
  bnd (DX3_takeSemicolon l0 σ1) fun v2 σ3 =>
  chk (ck01 v2) <|
  some (v2, σ3)
theorem tX3_readTicket_98 {r : Int32} {σ' : Sg} (C : Cx E p s m args meth c RX3 cX3_readTicket 7) (hr : meth.sig.returnType = (some .boolean)) {l0 : Nat} {l1 : Int64} {σ : Sg} (h : DX3_readTicket_98 l0 l1 σ = some (r, σ')) : Y E p l e (rmA 5 0 0) s m args below meth c (some (.int r)) σ' 0 0 7 0 0 σ 98 [some (.ref (ad E l0)), some (.long l1), none, none, none, none, none] [] := by
  unfold DX3_readTicket_98 at h
  refine x_aload_n (pc := 98) C dX3_readTicket_98 rfl rfl ?_
  obtain ⟨k, h⟩ := chk_s h
  have k2 := k
  obtain ⟨k, h⟩ := chk_s h
  refine x_getR (pc := 99) C fX3_50 rfl k2 k dX3_readTicket_99 ?_
  refine x_lload_n (pc := 102) C dX3_readTicket_102 rfl rfl ?_
  obtain ⟨k, h⟩ := chk_s h
  have k2 := k
  obtain ⟨u0, σ1, k, h⟩ := bnd_s h
  refine x_callV0 (pc := 103) C (mX1_endTicket E l k) cl0 k2 cX3_261 nX1_endTicket sX1_endTicket rfl rfl (Nat.le_of_ble_eq_true rfl) ⟨Nat.le_of_ble_eq_true rfl, Nat.le_of_ble_eq_true rfl, Nat.le_of_ble_eq_true rfl, Nat.le_of_ble_eq_true rfl⟩ dX3_readTicket_103 ?_
  refine x_aload_n (pc := 106) C dX3_readTicket_106 rfl rfl ?_
  obtain ⟨k, h⟩ := chk_s h
  have k2 := k
  obtain ⟨v2, σ3, k, h⟩ := bnd_s h
  refine x_callV1 (pc := 107) C (mX3_takeSemicolon E l k) cl2 k2 cX3_195 nX3_takeSemicolon sX3_takeSemicolon rfl rfl (Nat.le_of_ble_eq_true rfl) ⟨Nat.le_of_ble_eq_true rfl, Nat.le_of_ble_eq_true rfl, Nat.le_of_ble_eq_true rfl, Nat.le_of_ble_eq_true rfl⟩ dX3_readTicket_107 ?_
  obtain ⟨kz, h⟩ := chk_s h
  cases h
  exact x_zret C hr (nar_01 kz) dX3_readTicket_110
def DX3_readTicket_127 (σ : Sg) : Option (Int32 × Sg) :=
  chk (ck01 (0 : Int32)) <|
  some ((0 : Int32), σ)
theorem tX3_readTicket_127 {r : Int32} {σ' : Sg} (C : Cx E p s m args meth c RX3 cX3_readTicket 7) (hr : meth.sig.returnType = (some .boolean)) {σ : Sg} (h : DX3_readTicket_127  σ = some (r, σ')) : Y E p l e (rmA 5 0 0) s m args below meth c (some (.int r)) σ' 0 0 7 0 0 σ 127 [none, none, none, none, none, none, none] [] := by
  unfold DX3_readTicket_127 at h
  refine x_iconst (v := 0) (pc := 127) C dX3_readTicket_127 (by decide) ?_
  obtain ⟨kz, h⟩ := chk_s h
  cases h
  exact x_zret C hr (nar_01 kz) dX3_readTicket_128
def DX3_readTicket_111 (K76 : Nat → Int64 → Int32 → Int32 → Sg → Option (Int32 × Sg)) (l0 : Nat) (l1 : Int64) (l5 : Int32) (l6 : Int32) (σ : Sg) : Option (Int32 × Sg) :=
  chk (ckO σ 2 l0) <|
  bnd (DX3_readCoupon l0 l6 l5 σ) fun v1 σ2 =>
  if v1 = (-1 : Int32) then
    DX3_readTicket_127 σ2
  else
    K76 l0 l1 v1 (l6 + (1 : Int32)) σ2
theorem tX3_readTicket_111 {r : Int32} {σ' : Sg} (C : Cx E p s m args meth c RX3 cX3_readTicket 7) (hr : meth.sig.returnType = (some .boolean)) {K76 : Nat → Int64 → Int32 → Int32 → Sg → Option (Int32 × Sg)} (hK76 : ∀ (l0 : Nat) (l1 : Int64) (l5 : Int32) (l6 : Int32) (σ : Sg), K76 l0 l1 l5 l6 σ = some (r, σ') → Y E p l e (rmA 5 0 0) s m args below meth c (some (.int r)) σ' 0 0 7 0 0 σ 76 [some (.ref (ad E l0)), some (.long l1), none, none, none, some (.int l5), some (.int l6)] []) {l0 : Nat} {l1 : Int64} {l5 : Int32} {l6 : Int32} {σ : Sg} (h : DX3_readTicket_111 K76 l0 l1 l5 l6 σ = some (r, σ')) : Y E p l e (rmA 5 0 0) s m args below meth c (some (.int r)) σ' 0 0 7 0 0 σ 111 [some (.ref (ad E l0)), some (.long l1), none, none, none, some (.int l5), some (.int l6)] [] := by
  unfold DX3_readTicket_111 at h
  refine x_aload_n (pc := 111) C dX3_readTicket_111 rfl rfl ?_
  refine x_iload (pc := 112) C dX3_readTicket_112 rfl ?_
  refine x_iload (pc := 114) C dX3_readTicket_114 rfl ?_
  obtain ⟨k, h⟩ := chk_s h
  have k2 := k
  obtain ⟨v1, σ2, k, h⟩ := bnd_s h
  refine x_callV1 (pc := 116) C (mX3_readCoupon E l k) cl2 k2 cX3_264 nX3_readCoupon sX3_readCoupon rfl rfl (Nat.le_of_ble_eq_true rfl) ⟨Nat.le_of_ble_eq_true rfl, Nat.le_of_ble_eq_true rfl, Nat.le_of_ble_eq_true rfl, Nat.le_of_ble_eq_true rfl⟩ dX3_readTicket_116 ?_
  refine x_istore (M := [some _, some _, none, none, none, some _, some _]) (pc := 119) C dX3_readTicket_119 (by decide) rfl ?_
  refine x_iload (pc := 121) C dX3_readTicket_121 rfl ?_
  refine x_iconst (v := -1) (pc := 123) C dX3_readTicket_123 (by decide) ?_
  refine x_icmp_ne (pc := 124) (tgt := 129) C dX3_readTicket_124 (by decide) (fun q => ?_) (fun q => ?_)
  · rw [if_pos q] at h
    exact x_sub (tX3_readTicket_127 C hr h) (xLe_n (xLe_n (xLe_n (xLe_n (xLe_n (xLe_n (xLe_n xLe_0)))))))
  · rw [if_neg q] at h
    refine x_iinc (v := 1) (M := [some _, some _, none, none, none, some _, some _]) (pc := 129) C dX3_readTicket_129 rfl (by decide) (by decide) rfl ?_
    refine x_goto (tgt := 76) (pc := 132) C dX3_readTicket_132 (by decide) ?_
    exact x_sub (hK76 _ _ _ _ _ h) (xLe_s (xLe_s (xLe_n (xLe_n (xLe_n (xLe_s (xLe_s xLe_0)))))))
def DX3_readTicket_135 (σ : Sg) : Option (Int32 × Sg) :=
  chk (ck01 (0 : Int32)) <|
  some ((0 : Int32), σ)
theorem tX3_readTicket_135 {r : Int32} {σ' : Sg} (C : Cx E p s m args meth c RX3 cX3_readTicket 7) (hr : meth.sig.returnType = (some .boolean)) {σ : Sg} (h : DX3_readTicket_135  σ = some (r, σ')) : Y E p l e (rmA 5 0 0) s m args below meth c (some (.int r)) σ' 0 0 7 0 0 σ 135 [none, none, none, none, none, none, none] [] := by
  unfold DX3_readTicket_135 at h
  refine x_iconst (v := 0) (pc := 135) C dX3_readTicket_135 (by decide) ?_
  obtain ⟨kz, h⟩ := chk_s h
  cases h
  exact x_zret C hr (nar_01 kz) dX3_readTicket_136
def DX3_readTicket_76 : Nat → Nat → Int64 → Int32 → Int32 → Sg → Option (Int32 × Sg)
  | 0, _, _, _, _, _ => none
  | n + 1, l0, l1, l5, l6, σ =>
    if (8 : Int32) < l6 then
      DX3_readTicket_135 σ
    else
      if l6 ≤ 0 then
        DX3_readTicket_111 (DX3_readTicket_76 n) l0 l1 l5 l6 σ
      else
        chk (ckO σ 2 l0) <|
        chk (ckV (gR σ l0 4)) <|
        chk (ckT (gR σ l0 4) && ckT 1002) <|
        if (gR σ l0 4) = 1002 then
          DX3_readTicket_98 l0 l1 σ
        else
          DX3_readTicket_111 (DX3_readTicket_76 n) l0 l1 l5 l6 σ
theorem tX3_readTicket_76 {r : Int32} {σ' : Sg} (C : Cx E p s m args meth c RX3 cX3_readTicket 7) (hr : meth.sig.returnType = (some .boolean)) : ∀ (n : Nat) (l0 : Nat) (l1 : Int64) (l5 : Int32) (l6 : Int32) (σ : Sg) (h : DX3_readTicket_76 n l0 l1 l5 l6 σ = some (r, σ')), Y E p l e (rmA 5 0 0) s m args below meth c (some (.int r)) σ' 0 0 7 0 0 σ 76 [some (.ref (ad E l0)), some (.long l1), none, none, none, some (.int l5), some (.int l6)] [] := by
  intro n
  induction n with
  | zero => intro l0 l1 l5 l6 σ h; cases h
  | succ n ih =>
    intro l0 l1 l5 l6 σ h
    unfold DX3_readTicket_76 at h
    refine x_iload (pc := 76) C dX3_readTicket_76 rfl ?_
    refine x_bipush (v := 8) (pc := 78) C dX3_readTicket_78 (by decide) ?_
    refine x_icmp_gt (pc := 80) (tgt := 135) C dX3_readTicket_80 (by decide) (fun q => ?_) (fun q => ?_)
    · rw [if_pos q] at h
      exact x_sub (tX3_readTicket_135 C hr h) (xLe_n (xLe_n (xLe_n (xLe_n (xLe_n (xLe_n (xLe_n xLe_0)))))))
    · rw [if_neg q] at h
      refine x_iload (pc := 83) C dX3_readTicket_83 rfl ?_
      refine x_if_le (pc := 85) (tgt := 111) C dX3_readTicket_85 (by decide) (fun q => ?_) (fun q => ?_)
      · rw [if_pos q] at h
        exact x_sub (tX3_readTicket_111 C hr ih h) (xLe_s (xLe_s (xLe_n (xLe_n (xLe_n (xLe_s (xLe_s xLe_0)))))))
      · rw [if_neg q] at h
        refine x_aload_n (pc := 88) C dX3_readTicket_88 rfl rfl ?_
        obtain ⟨k, h⟩ := chk_s h
        have k2 := k
        obtain ⟨k, h⟩ := chk_s h
        refine x_getR (pc := 89) C fX3_24 rfl k2 k dX3_readTicket_89 ?_
        refine x_getTok (pc := 92) C 2 (by decide) gX3_74 dX3_readTicket_92 ?_
        obtain ⟨k, h⟩ := chk_s h
        refine x_tcmp_ne (pc := 95) (tgt := 111) C k dX3_readTicket_95 (by decide) (fun q => ?_) (fun q => ?_)
        · rw [if_pos q] at h
          exact x_sub (tX3_readTicket_98 C hr h) (xLe_s (xLe_s (xLe_n (xLe_n (xLe_n (xLe_n (xLe_n xLe_0)))))))
        · rw [if_neg q] at h
          exact x_sub (tX3_readTicket_111 C hr ih h) (xLe_s (xLe_s (xLe_n (xLe_n (xLe_n (xLe_s (xLe_s xLe_0)))))))
def DX3_readTicket (l0 : Nat) (σ : Sg) : Option (Int32 × Sg) :=
  chk (ckO σ 2 l0) <|
  bnd (DX3_step l0 σ) fun _ σ1 =>
  chk (ckO σ1 2 l0) <|
  bnd (DX3_takeNewName l0 σ1) fun v2 σ3 =>
  if v2 = (0 : Int64) then
    chk (ck01 (0 : Int32)) <|
    some ((0 : Int32), σ3)
  else
    chk (ckO σ3 2 l0) <|
    bnd (DX3_takeNumber l0 (1 : Int32) (9999999 : Int32) σ3) fun v4 σ5 =>
    if v4 = (-1 : Int32) then
      chk (ck01 (0 : Int32)) <|
      some ((0 : Int32), σ5)
    else
      chk (ckO σ5 2 l0) <|
      bnd (DX3_takeHow l0 σ5) fun v6 σ7 =>
      if v6 = (-1 : Int32) then
        chk (ck01 (0 : Int32)) <|
        some ((0 : Int32), σ7)
      else
        chk (ckO σ7 2 l0) <|
        bnd (DX3_takePlace l0 (-1 : Int32) σ7) fun v8 σ9 =>
        if v8 = (-1 : Int32) then
          chk (ck01 (0 : Int32)) <|
          some ((0 : Int32), σ9)
        else
          chk (ckO σ9 2 l0) <|
          chk (ckV (gR σ9 l0 1)) <|
          chk (ckO σ9 0 (gR σ9 l0 1)) <|
          bnd (DX1_beginTicket (gR σ9 l0 1) v4 v6 v8 σ9) fun _ σ10 =>
          DX3_readTicket_76 FU l0 v2 v8 (0 : Int32) σ10
theorem mX3_readTicket (E : Ev) (l : Launch) {l0 : Nat} {σ : Sg} {r : Int32} {σ' : Sg} (h : DX3_readTicket l0 σ = some (r, σ')) : Mt E l yX3_readTicket cX3_readTicket 7 (some .boolean) 5 0 0 [.ref (ad E l0)] σ (some (.int r)) σ' := by
  refine Mt.ofX (by decide) (Nat.le_of_ble_eq_true rfl) (L0 := [some (.ref (ad E l0)), none, none, none, none, none, none]) (xEntN_ok [.ref (ad E l0)] 7) (fun p e s m args below meth c C hr hn => ?_)
  unfold DX3_readTicket at h
  refine x_aload_n (pc := 0) C dX3_readTicket_0 rfl rfl ?_
  obtain ⟨k, h⟩ := chk_s h
  have k2 := k
  obtain ⟨u0, σ1, k, h⟩ := bnd_s h
  refine x_callV0 (pc := 1) C (mX3_step E l k) cl2 k2 cX3_65 nX3_step sX3_step rfl rfl (Nat.le_of_ble_eq_true rfl) ⟨Nat.le_of_ble_eq_true rfl, Nat.le_of_ble_eq_true rfl, Nat.le_of_ble_eq_true rfl, Nat.le_of_ble_eq_true rfl⟩ dX3_readTicket_1 ?_
  refine x_aload_n (pc := 4) C dX3_readTicket_4 rfl rfl ?_
  obtain ⟨k, h⟩ := chk_s h
  have k2 := k
  obtain ⟨v2, σ3, k, h⟩ := bnd_s h
  refine x_callV1 (pc := 5) C (mX3_takeNewName E l k) cl2 k2 cX3_187 nX3_takeNewName sX3_takeNewName rfl rfl (Nat.le_of_ble_eq_true rfl) ⟨Nat.le_of_ble_eq_true rfl, Nat.le_of_ble_eq_true rfl, Nat.le_of_ble_eq_true rfl, Nat.le_of_ble_eq_true rfl⟩ dX3_readTicket_5 ?_
  refine x_lstore_n (M := [some _, some _, none, none, none, none, none]) (pc := 8) C dX3_readTicket_8 rfl (by decide) rfl ?_
  refine x_lload_n (pc := 9) C dX3_readTicket_9 rfl rfl ?_
  refine x_lconst (v := 0) (pc := 10) C dX3_readTicket_10 (by decide) ?_
  refine x_lcmp (pc := 11) C dX3_readTicket_11 ?_
  refine x_lif_ne (pc := 12) (tgt := 17) C dX3_readTicket_12 (by decide) (fun q => ?_) (fun q => ?_)
  · rw [if_pos q] at h
    refine x_iconst (v := 0) (pc := 15) C dX3_readTicket_15 (by decide) ?_
    obtain ⟨kz, h⟩ := chk_s h
    cases h
    exact x_zret C hr (nar_01 kz) dX3_readTicket_16
  · rw [if_neg q] at h
    refine x_aload_n (pc := 17) C dX3_readTicket_17 rfl rfl ?_
    refine x_iconst (v := 1) (pc := 18) C dX3_readTicket_18 (by decide) ?_
    refine x_ldc (pc := 19) C kX3_254 dX3_readTicket_19 ?_
    obtain ⟨k, h⟩ := chk_s h
    have k2 := k
    obtain ⟨v4, σ5, k, h⟩ := bnd_s h
    refine x_callV1 (pc := 21) C (mX3_takeNumber E l k) cl2 k2 cX3_212 nX3_takeNumber sX3_takeNumber rfl rfl (Nat.le_of_ble_eq_true rfl) ⟨Nat.le_of_ble_eq_true rfl, Nat.le_of_ble_eq_true rfl, Nat.le_of_ble_eq_true rfl, Nat.le_of_ble_eq_true rfl⟩ dX3_readTicket_21 ?_
    refine x_istore_n (M := [some _, some _, none, some _, none, none, none]) (pc := 24) C dX3_readTicket_24 rfl (by decide) rfl ?_
    refine x_iload_n (pc := 25) C dX3_readTicket_25 rfl rfl ?_
    refine x_iconst (v := -1) (pc := 26) C dX3_readTicket_26 (by decide) ?_
    refine x_icmp_ne (pc := 27) (tgt := 32) C dX3_readTicket_27 (by decide) (fun q => ?_) (fun q => ?_)
    · rw [if_pos q] at h
      refine x_iconst (v := 0) (pc := 30) C dX3_readTicket_30 (by decide) ?_
      obtain ⟨kz, h⟩ := chk_s h
      cases h
      exact x_zret C hr (nar_01 kz) dX3_readTicket_31
    · rw [if_neg q] at h
      refine x_aload_n (pc := 32) C dX3_readTicket_32 rfl rfl ?_
      obtain ⟨k, h⟩ := chk_s h
      have k2 := k
      obtain ⟨v6, σ7, k, h⟩ := bnd_s h
      refine x_callV1 (pc := 33) C (mX3_takeHow E l k) cl2 k2 cX3_255 nX3_takeHow sX3_takeHow rfl rfl (Nat.le_of_ble_eq_true rfl) ⟨Nat.le_of_ble_eq_true rfl, Nat.le_of_ble_eq_true rfl, Nat.le_of_ble_eq_true rfl, Nat.le_of_ble_eq_true rfl⟩ dX3_readTicket_33 ?_
      refine x_istore (M := [some _, some _, none, some _, some _, none, none]) (pc := 36) C dX3_readTicket_36 (by decide) rfl ?_
      refine x_iload (pc := 38) C dX3_readTicket_38 rfl ?_
      refine x_iconst (v := -1) (pc := 40) C dX3_readTicket_40 (by decide) ?_
      refine x_icmp_ne (pc := 41) (tgt := 46) C dX3_readTicket_41 (by decide) (fun q => ?_) (fun q => ?_)
      · rw [if_pos q] at h
        refine x_iconst (v := 0) (pc := 44) C dX3_readTicket_44 (by decide) ?_
        obtain ⟨kz, h⟩ := chk_s h
        cases h
        exact x_zret C hr (nar_01 kz) dX3_readTicket_45
      · rw [if_neg q] at h
        refine x_aload_n (pc := 46) C dX3_readTicket_46 rfl rfl ?_
        refine x_iconst (v := -1) (pc := 47) C dX3_readTicket_47 (by decide) ?_
        obtain ⟨k, h⟩ := chk_s h
        have k2 := k
        obtain ⟨v8, σ9, k, h⟩ := bnd_s h
        refine x_callV1 (pc := 48) C (mX3_takePlace E l k) cl2 k2 cX3_201 nX3_takePlace sX3_takePlace rfl rfl (Nat.le_of_ble_eq_true rfl) ⟨Nat.le_of_ble_eq_true rfl, Nat.le_of_ble_eq_true rfl, Nat.le_of_ble_eq_true rfl, Nat.le_of_ble_eq_true rfl⟩ dX3_readTicket_48 ?_
        refine x_istore (M := [some _, some _, none, some _, some _, some _, none]) (pc := 51) C dX3_readTicket_51 (by decide) rfl ?_
        refine x_iload (pc := 53) C dX3_readTicket_53 rfl ?_
        refine x_iconst (v := -1) (pc := 55) C dX3_readTicket_55 (by decide) ?_
        refine x_icmp_ne (pc := 56) (tgt := 61) C dX3_readTicket_56 (by decide) (fun q => ?_) (fun q => ?_)
        · rw [if_pos q] at h
          refine x_iconst (v := 0) (pc := 59) C dX3_readTicket_59 (by decide) ?_
          obtain ⟨kz, h⟩ := chk_s h
          cases h
          exact x_zret C hr (nar_01 kz) dX3_readTicket_60
        · rw [if_neg q] at h
          refine x_aload_n (pc := 61) C dX3_readTicket_61 rfl rfl ?_
          obtain ⟨k, h⟩ := chk_s h
          have k2 := k
          obtain ⟨k, h⟩ := chk_s h
          refine x_getR (pc := 62) C fX3_50 rfl k2 k dX3_readTicket_62 ?_
          refine x_iload_n (pc := 65) C dX3_readTicket_65 rfl rfl ?_
          refine x_iload (pc := 66) C dX3_readTicket_66 rfl ?_
          refine x_iload (pc := 68) C dX3_readTicket_68 rfl ?_
          obtain ⟨k, h⟩ := chk_s h
          have k2 := k
          obtain ⟨u0, σ10, k, h⟩ := bnd_s h
          refine x_callV0 (pc := 70) C (mX1_beginTicket E l k) cl0 k2 cX3_258 nX1_beginTicket sX1_beginTicket rfl rfl (Nat.le_of_ble_eq_true rfl) ⟨Nat.le_of_ble_eq_true rfl, Nat.le_of_ble_eq_true rfl, Nat.le_of_ble_eq_true rfl, Nat.le_of_ble_eq_true rfl⟩ dX3_readTicket_70 ?_
          refine x_iconst (v := 0) (pc := 73) C dX3_readTicket_73 (by decide) ?_
          refine x_istore (M := [some _, some _, none, some _, some _, some _, some _]) (pc := 74) C dX3_readTicket_74 (by decide) rfl ?_
          exact x_sub (tX3_readTicket_76 C hr FU _ _ _ _ _ h) (xLe_s (xLe_s (xLe_n (xLe_n (xLe_n (xLe_s (xLe_s xLe_0)))))))
def DX3_readLine_80 (s0 : Int32) (σ : Sg) : Option (Int32 × Sg) :=
  chk (ck01 s0) <|
  some (s0, σ)
theorem tX3_readLine_80 {r : Int32} {σ' : Sg} (C : Cx E p s m args meth c RX3 cX3_readLine 1) (hr : meth.sig.returnType = (some .boolean)) {s0 : Int32} {σ : Sg} (h : DX3_readLine_80 s0 σ = some (r, σ')) : Y E p l e (rmA 6 0 0) s m args below meth c (some (.int r)) σ' 0 0 1 0 0 σ 80 [none] [.int s0] := by
  unfold DX3_readLine_80 at h
  obtain ⟨kz, h⟩ := chk_s h
  cases h
  exact x_zret C hr (nar_01 kz) dX3_readLine_80
def DX3_readLine_105 (s0 : Int32) (σ : Sg) : Option (Int32 × Sg) :=
  chk (ck01 s0) <|
  some (s0, σ)
theorem tX3_readLine_105 {r : Int32} {σ' : Sg} (C : Cx E p s m args meth c RX3 cX3_readLine 1) (hr : meth.sig.returnType = (some .boolean)) {s0 : Int32} {σ : Sg} (h : DX3_readLine_105 s0 σ = some (r, σ')) : Y E p l e (rmA 6 0 0) s m args below meth c (some (.int r)) σ' 0 0 1 0 0 σ 105 [none] [.int s0] := by
  unfold DX3_readLine_105 at h
  obtain ⟨kz, h⟩ := chk_s h
  cases h
  exact x_zret C hr (nar_01 kz) dX3_readLine_105
def DX3_readLine_130 (s0 : Int32) (σ : Sg) : Option (Int32 × Sg) :=
  chk (ck01 s0) <|
  some (s0, σ)
theorem tX3_readLine_130 {r : Int32} {σ' : Sg} (C : Cx E p s m args meth c RX3 cX3_readLine 1) (hr : meth.sig.returnType = (some .boolean)) {s0 : Int32} {σ : Sg} (h : DX3_readLine_130 s0 σ = some (r, σ')) : Y E p l e (rmA 6 0 0) s m args below meth c (some (.int r)) σ' 0 0 1 0 0 σ 130 [none] [.int s0] := by
  unfold DX3_readLine_130 at h
  obtain ⟨kz, h⟩ := chk_s h
  cases h
  exact x_zret C hr (nar_01 kz) dX3_readLine_130
def DX3_readLine_154 (s0 : Int32) (σ : Sg) : Option (Int32 × Sg) :=
  chk (ck01 s0) <|
  some (s0, σ)
theorem tX3_readLine_154 {r : Int32} {σ' : Sg} (C : Cx E p s m args meth c RX3 cX3_readLine 1) (hr : meth.sig.returnType = (some .boolean)) {s0 : Int32} {σ : Sg} (h : DX3_readLine_154 s0 σ = some (r, σ')) : Y E p l e (rmA 6 0 0) s m args below meth c (some (.int r)) σ' 0 0 1 0 0 σ 154 [none] [.int s0] := by
  unfold DX3_readLine_154 at h
  obtain ⟨kz, h⟩ := chk_s h
  cases h
  exact x_zret C hr (nar_01 kz) dX3_readLine_154
def DX3_readLine_179 (s0 : Int32) (σ : Sg) : Option (Int32 × Sg) :=
  chk (ck01 s0) <|
  some (s0, σ)
theorem tX3_readLine_179 {r : Int32} {σ' : Sg} (C : Cx E p s m args meth c RX3 cX3_readLine 1) (hr : meth.sig.returnType = (some .boolean)) {s0 : Int32} {σ : Sg} (h : DX3_readLine_179 s0 σ = some (r, σ')) : Y E p l e (rmA 6 0 0) s m args below meth c (some (.int r)) σ' 0 0 1 0 0 σ 179 [none] [.int s0] := by
  unfold DX3_readLine_179 at h
  obtain ⟨kz, h⟩ := chk_s h
  cases h
  exact x_zret C hr (nar_01 kz) dX3_readLine_179
def DX3_readLine_204 (s0 : Int32) (σ : Sg) : Option (Int32 × Sg) :=
  chk (ck01 s0) <|
  some (s0, σ)
theorem tX3_readLine_204 {r : Int32} {σ' : Sg} (C : Cx E p s m args meth c RX3 cX3_readLine 1) (hr : meth.sig.returnType = (some .boolean)) {s0 : Int32} {σ : Sg} (h : DX3_readLine_204 s0 σ = some (r, σ')) : Y E p l e (rmA 6 0 0) s m args below meth c (some (.int r)) σ' 0 0 1 0 0 σ 204 [none] [.int s0] := by
  unfold DX3_readLine_204 at h
  obtain ⟨kz, h⟩ := chk_s h
  cases h
  exact x_zret C hr (nar_01 kz) dX3_readLine_204
def DX3_readLine_227 (s0 : Int32) (σ : Sg) : Option (Int32 × Sg) :=
  chk (ck01 s0) <|
  some (s0, σ)
theorem tX3_readLine_227 {r : Int32} {σ' : Sg} (C : Cx E p s m args meth c RX3 cX3_readLine 1) (hr : meth.sig.returnType = (some .boolean)) {s0 : Int32} {σ : Sg} (h : DX3_readLine_227 s0 σ = some (r, σ')) : Y E p l e (rmA 6 0 0) s m args below meth c (some (.int r)) σ' 0 0 1 0 0 σ 227 [none] [.int s0] := by
  unfold DX3_readLine_227 at h
  obtain ⟨kz, h⟩ := chk_s h
  cases h
  exact x_zret C hr (nar_01 kz) dX3_readLine_227
def DX3_readLine_252 (s0 : Int32) (σ : Sg) : Option (Int32 × Sg) :=
  chk (ck01 s0) <|
  some (s0, σ)
theorem tX3_readLine_252 {r : Int32} {σ' : Sg} (C : Cx E p s m args meth c RX3 cX3_readLine 1) (hr : meth.sig.returnType = (some .boolean)) {s0 : Int32} {σ : Sg} (h : DX3_readLine_252 s0 σ = some (r, σ')) : Y E p l e (rmA 6 0 0) s m args below meth c (some (.int r)) σ' 0 0 1 0 0 σ 252 [none] [.int s0] := by
  unfold DX3_readLine_252 at h
  obtain ⟨kz, h⟩ := chk_s h
  cases h
  exact x_zret C hr (nar_01 kz) dX3_readLine_252
def DX3_readLine (l0 : Nat) (σ : Sg) : Option (Int32 × Sg) :=
  chk (ckO σ 2 l0) <|
  chk (ckV (gR σ l0 4)) <|
  chk (ckT (gR σ l0 4)) <|
  chk (inb (nI ((gR σ l0 4) - 1000)) 20) <|
  if (swm.getD (nI ((gR σ l0 4) - 1000)).toNatClampNeg 0) = 1 then
    chk (ckO σ 2 l0) <|
    chk (ckV (gR σ l0 1)) <|
    chk (ckO σ 0 (gR σ l0 1)) <|
    if (12 : Int32) ≤ (gI σ (gR σ l0 1) 1) then
      chk (ckO σ 2 l0) <|
      bnd (DX3_failHere l0 (2 : Int32) σ) fun v1 σ2 =>
      DX3_readLine_80 v1 σ2
    else
      chk (ckO σ 2 l0) <|
      bnd (DX3_readPlace l0 σ) fun v3 σ4 =>
      DX3_readLine_80 v3 σ4
  else
    if (swm.getD (nI ((gR σ l0 4) - 1000)).toNatClampNeg 0) = 2 then
      chk (ckO σ 2 l0) <|
      chk (ckV (gR σ l0 1)) <|
      chk (ckO σ 0 (gR σ l0 1)) <|
      if (6 : Int32) ≤ (gI σ (gR σ l0 1) 2) then
        chk (ckO σ 2 l0) <|
        bnd (DX3_failHere l0 (2 : Int32) σ) fun v5 σ6 =>
        DX3_readLine_105 v5 σ6
      else
        chk (ckO σ 2 l0) <|
        bnd (DX3_readCarrier l0 σ) fun v7 σ8 =>
        DX3_readLine_105 v7 σ8
    else
      if (swm.getD (nI ((gR σ l0 4) - 1000)).toNatClampNeg 0) = 3 then
        chk (ckO σ 2 l0) <|
        chk (ckV (gR σ l0 1)) <|
        chk (ckO σ 0 (gR σ l0 1)) <|
        if (24 : Int32) ≤ (gI σ (gR σ l0 1) 3) then
          chk (ckO σ 2 l0) <|
          bnd (DX3_failHere l0 (2 : Int32) σ) fun v9 σ10 =>
          DX3_readLine_130 v9 σ10
        else
          chk (ckO σ 2 l0) <|
          bnd (DX3_readLeg l0 σ) fun v11 σ12 =>
          DX3_readLine_130 v11 σ12
      else
        if (swm.getD (nI ((gR σ l0 4) - 1000)).toNatClampNeg 0) = 4 then
          chk (ckO σ 2 l0) <|
          chk (ckV (gR σ l0 1)) <|
          chk (ckO σ 0 (gR σ l0 1)) <|
          if (5 : Int32) ≤ (gI σ (gR σ l0 1) 4) then
            chk (ckO σ 2 l0) <|
            bnd (DX3_failHere l0 (2 : Int32) σ) fun v13 σ14 =>
            DX3_readLine_154 v13 σ14
          else
            chk (ckO σ 2 l0) <|
            bnd (DX3_readBand l0 σ) fun v15 σ16 =>
            DX3_readLine_154 v15 σ16
        else
          if (swm.getD (nI ((gR σ l0 4) - 1000)).toNatClampNeg 0) = 5 then
            chk (ckO σ 2 l0) <|
            chk (ckV (gR σ l0 1)) <|
            chk (ckO σ 0 (gR σ l0 1)) <|
            if (16 : Int32) ≤ (gI σ (gR σ l0 1) 5) then
              chk (ckO σ 2 l0) <|
              bnd (DX3_failHere l0 (2 : Int32) σ) fun v17 σ18 =>
              DX3_readLine_179 v17 σ18
            else
              chk (ckO σ 2 l0) <|
              bnd (DX3_readProviso l0 σ) fun v19 σ20 =>
              DX3_readLine_179 v19 σ20
          else
            if (swm.getD (nI ((gR σ l0 4) - 1000)).toNatClampNeg 0) = 6 then
              chk (ckO σ 2 l0) <|
              chk (ckV (gR σ l0 1)) <|
              chk (ckO σ 0 (gR σ l0 1)) <|
              if (16 : Int32) ≤ (gI σ (gR σ l0 1) 6) then
                chk (ckO σ 2 l0) <|
                bnd (DX3_failHere l0 (2 : Int32) σ) fun v21 σ22 =>
                DX3_readLine_204 v21 σ22
              else
                chk (ckO σ 2 l0) <|
                bnd (DX3_readBase l0 σ) fun v23 σ24 =>
                DX3_readLine_204 v23 σ24
            else
              if (swm.getD (nI ((gR σ l0 4) - 1000)).toNatClampNeg 0) = 7 then
                chk (ckO σ 2 l0) <|
                chk (ckV (gR σ l0 1)) <|
                chk (ckO σ 0 (gR σ l0 1)) <|
                if (gI σ (gR σ l0 1) 8) = 0 then
                  chk (ckO σ 2 l0) <|
                  bnd (DX3_readRate l0 σ) fun v25 σ26 =>
                  DX3_readLine_227 v25 σ26
                else
                  chk (ckO σ 2 l0) <|
                  bnd (DX3_failHere l0 (3 : Int32) σ) fun v27 σ28 =>
                  DX3_readLine_227 v27 σ28
              else
                if (swm.getD (nI ((gR σ l0 4) - 1000)).toNatClampNeg 0) = 8 then
                  chk (ckO σ 2 l0) <|
                  chk (ckV (gR σ l0 1)) <|
                  chk (ckO σ 0 (gR σ l0 1)) <|
                  if (8 : Int32) ≤ (gI σ (gR σ l0 1) 9) then
                    chk (ckO σ 2 l0) <|
                    bnd (DX3_failHere l0 (2 : Int32) σ) fun v29 σ30 =>
                    DX3_readLine_252 v29 σ30
                  else
                    chk (ckO σ 2 l0) <|
                    bnd (DX3_readTicket l0 σ) fun v31 σ32 =>
                    DX3_readLine_252 v31 σ32
                else
                  chk (ckO σ 2 l0) <|
                  bnd (DX3_failHere l0 (1 : Int32) σ) fun v33 σ34 =>
                  chk (ck01 v33) <|
                  some (v33, σ34)
theorem mX3_readLine (E : Ev) (l : Launch) {l0 : Nat} {σ : Sg} {r : Int32} {σ' : Sg} (h : DX3_readLine l0 σ = some (r, σ')) : Mt E l yX3_readLine cX3_readLine 1 (some .boolean) 6 0 0 [.ref (ad E l0)] σ (some (.int r)) σ' := by
  refine Mt.ofX (by decide) (Nat.le_of_ble_eq_true rfl) (L0 := [some (.ref (ad E l0))]) (xEntN_ok [.ref (ad E l0)] 1) (fun p e s m args below meth c C hr hn => ?_)
  unfold DX3_readLine at h
  refine x_getSwm (pc := 0) C gX3_100 dX3_readLine_0 ?_
  refine x_aload_n (pc := 3) C dX3_readLine_3 rfl rfl ?_
  obtain ⟨k, h⟩ := chk_s h
  have k2 := k
  obtain ⟨k, h⟩ := chk_s h
  refine x_getR (pc := 4) C fX3_24 rfl k2 k dX3_readLine_4 ?_
  obtain ⟨k, h⟩ := chk_s h
  refine x_ordX3 (pc := 7) C k ⟨Nat.le_of_ble_eq_true rfl, Nat.le_of_ble_eq_true rfl, Nat.le_of_ble_eq_true rfl, Nat.le_of_ble_eq_true rfl⟩ (Nat.le_of_ble_eq_true rfl) dX3_readLine_7 ?_
  obtain ⟨k, h⟩ := chk_s h
  refine x_ialdSwm (pc := 10) C k dX3_readLine_10 ?_
  refine br_em (c := (swm.getD (nI ((gR σ l0 4) - 1000)).toNatClampNeg 0) = 1) (fun q0 => ?_) (fun q0 => ?_)
  · rw [if_pos q0] at h
    refine x_switchIn (pc := 11) (tgt := 56) C dX3_readLine_11 (by rw [q0]; decide) (by rw [q0]; decide) (o := 45) (by rw [q0]; rfl) (by decide) ?_
    refine x_aload_n (pc := 56) C dX3_readLine_56 rfl rfl ?_
    obtain ⟨k, h⟩ := chk_s h
    have k2 := k
    obtain ⟨k, h⟩ := chk_s h
    refine x_getR (pc := 57) C fX3_50 rfl k2 k dX3_readLine_57 ?_
    obtain ⟨k, h⟩ := chk_s h
    refine x_getI (pc := 60) C fX3_109 rfl k dX3_readLine_60 ?_
    refine x_bipush (v := 12) (pc := 63) C dX3_readLine_63 (by decide) ?_
    refine x_icmp_ge (pc := 65) (tgt := 75) C dX3_readLine_65 (by decide) (fun q => ?_) (fun q => ?_)
    · rw [if_pos q] at h
      refine x_aload_n (pc := 75) C dX3_readLine_75 rfl rfl ?_
      refine x_iconst (v := 2) (pc := 76) C dX3_readLine_76 (by decide) ?_
      obtain ⟨k, h⟩ := chk_s h
      have k2 := k
      obtain ⟨v1, σ2, k, h⟩ := bnd_s h
      refine x_callV1 (pc := 77) C (mX3_failHere E l k) cl2 k2 cX3_116 nX3_failHere sX3_failHere rfl rfl (Nat.le_of_ble_eq_true rfl) ⟨Nat.le_of_ble_eq_true rfl, Nat.le_of_ble_eq_true rfl, Nat.le_of_ble_eq_true rfl, Nat.le_of_ble_eq_true rfl⟩ dX3_readLine_77 ?_
      exact x_sub (tX3_readLine_80 C hr h) (xLe_n xLe_0)
    · rw [if_neg q] at h
      refine x_aload_n (pc := 68) C dX3_readLine_68 rfl rfl ?_
      obtain ⟨k, h⟩ := chk_s h
      have k2 := k
      obtain ⟨v3, σ4, k, h⟩ := bnd_s h
      refine x_callV1 (pc := 69) C (mX3_readPlace E l k) cl2 k2 cX3_112 nX3_readPlace sX3_readPlace rfl rfl (Nat.le_of_ble_eq_true rfl) ⟨Nat.le_of_ble_eq_true rfl, Nat.le_of_ble_eq_true rfl, Nat.le_of_ble_eq_true rfl, Nat.le_of_ble_eq_true rfl⟩ dX3_readLine_69 ?_
      refine x_goto (tgt := 80) (pc := 72) C dX3_readLine_72 (by decide) ?_
      exact x_sub (tX3_readLine_80 C hr h) (xLe_n xLe_0)
  · rw [if_neg q0] at h
    refine br_em (c := (swm.getD (nI ((gR σ l0 4) - 1000)).toNatClampNeg 0) = 2) (fun q1 => ?_) (fun q1 => ?_)
    · rw [if_pos q1] at h
      refine x_switchIn (pc := 11) (tgt := 81) C dX3_readLine_11 (by rw [q1]; decide) (by rw [q1]; decide) (o := 70) (by rw [q1]; rfl) (by decide) ?_
      refine x_aload_n (pc := 81) C dX3_readLine_81 rfl rfl ?_
      obtain ⟨k, h⟩ := chk_s h
      have k2 := k
      obtain ⟨k, h⟩ := chk_s h
      refine x_getR (pc := 82) C fX3_50 rfl k2 k dX3_readLine_82 ?_
      obtain ⟨k, h⟩ := chk_s h
      refine x_getI (pc := 85) C fX3_120 rfl k dX3_readLine_85 ?_
      refine x_bipush (v := 6) (pc := 88) C dX3_readLine_88 (by decide) ?_
      refine x_icmp_ge (pc := 90) (tgt := 100) C dX3_readLine_90 (by decide) (fun q => ?_) (fun q => ?_)
      · rw [if_pos q] at h
        refine x_aload_n (pc := 100) C dX3_readLine_100 rfl rfl ?_
        refine x_iconst (v := 2) (pc := 101) C dX3_readLine_101 (by decide) ?_
        obtain ⟨k, h⟩ := chk_s h
        have k2 := k
        obtain ⟨v5, σ6, k, h⟩ := bnd_s h
        refine x_callV1 (pc := 102) C (mX3_failHere E l k) cl2 k2 cX3_116 nX3_failHere sX3_failHere rfl rfl (Nat.le_of_ble_eq_true rfl) ⟨Nat.le_of_ble_eq_true rfl, Nat.le_of_ble_eq_true rfl, Nat.le_of_ble_eq_true rfl, Nat.le_of_ble_eq_true rfl⟩ dX3_readLine_102 ?_
        exact x_sub (tX3_readLine_105 C hr h) (xLe_n xLe_0)
      · rw [if_neg q] at h
        refine x_aload_n (pc := 93) C dX3_readLine_93 rfl rfl ?_
        obtain ⟨k, h⟩ := chk_s h
        have k2 := k
        obtain ⟨v7, σ8, k, h⟩ := bnd_s h
        refine x_callV1 (pc := 94) C (mX3_readCarrier E l k) cl2 k2 cX3_123 nX3_readCarrier sX3_readCarrier rfl rfl (Nat.le_of_ble_eq_true rfl) ⟨Nat.le_of_ble_eq_true rfl, Nat.le_of_ble_eq_true rfl, Nat.le_of_ble_eq_true rfl, Nat.le_of_ble_eq_true rfl⟩ dX3_readLine_94 ?_
        refine x_goto (tgt := 105) (pc := 97) C dX3_readLine_97 (by decide) ?_
        exact x_sub (tX3_readLine_105 C hr h) (xLe_n xLe_0)
    · rw [if_neg q1] at h
      refine br_em (c := (swm.getD (nI ((gR σ l0 4) - 1000)).toNatClampNeg 0) = 3) (fun q2 => ?_) (fun q2 => ?_)
      · rw [if_pos q2] at h
        refine x_switchIn (pc := 11) (tgt := 106) C dX3_readLine_11 (by rw [q2]; decide) (by rw [q2]; decide) (o := 95) (by rw [q2]; rfl) (by decide) ?_
        refine x_aload_n (pc := 106) C dX3_readLine_106 rfl rfl ?_
        obtain ⟨k, h⟩ := chk_s h
        have k2 := k
        obtain ⟨k, h⟩ := chk_s h
        refine x_getR (pc := 107) C fX3_50 rfl k2 k dX3_readLine_107 ?_
        obtain ⟨k, h⟩ := chk_s h
        refine x_getI (pc := 110) C fX3_126 rfl k dX3_readLine_110 ?_
        refine x_bipush (v := 24) (pc := 113) C dX3_readLine_113 (by decide) ?_
        refine x_icmp_ge (pc := 115) (tgt := 125) C dX3_readLine_115 (by decide) (fun q => ?_) (fun q => ?_)
        · rw [if_pos q] at h
          refine x_aload_n (pc := 125) C dX3_readLine_125 rfl rfl ?_
          refine x_iconst (v := 2) (pc := 126) C dX3_readLine_126 (by decide) ?_
          obtain ⟨k, h⟩ := chk_s h
          have k2 := k
          obtain ⟨v9, σ10, k, h⟩ := bnd_s h
          refine x_callV1 (pc := 127) C (mX3_failHere E l k) cl2 k2 cX3_116 nX3_failHere sX3_failHere rfl rfl (Nat.le_of_ble_eq_true rfl) ⟨Nat.le_of_ble_eq_true rfl, Nat.le_of_ble_eq_true rfl, Nat.le_of_ble_eq_true rfl, Nat.le_of_ble_eq_true rfl⟩ dX3_readLine_127 ?_
          exact x_sub (tX3_readLine_130 C hr h) (xLe_n xLe_0)
        · rw [if_neg q] at h
          refine x_aload_n (pc := 118) C dX3_readLine_118 rfl rfl ?_
          obtain ⟨k, h⟩ := chk_s h
          have k2 := k
          obtain ⟨v11, σ12, k, h⟩ := bnd_s h
          refine x_callV1 (pc := 119) C (mX3_readLeg E l k) cl2 k2 cX3_129 nX3_readLeg sX3_readLeg rfl rfl (Nat.le_of_ble_eq_true rfl) ⟨Nat.le_of_ble_eq_true rfl, Nat.le_of_ble_eq_true rfl, Nat.le_of_ble_eq_true rfl, Nat.le_of_ble_eq_true rfl⟩ dX3_readLine_119 ?_
          refine x_goto (tgt := 130) (pc := 122) C dX3_readLine_122 (by decide) ?_
          exact x_sub (tX3_readLine_130 C hr h) (xLe_n xLe_0)
      · rw [if_neg q2] at h
        refine br_em (c := (swm.getD (nI ((gR σ l0 4) - 1000)).toNatClampNeg 0) = 4) (fun q3 => ?_) (fun q3 => ?_)
        · rw [if_pos q3] at h
          refine x_switchIn (pc := 11) (tgt := 131) C dX3_readLine_11 (by rw [q3]; decide) (by rw [q3]; decide) (o := 120) (by rw [q3]; rfl) (by decide) ?_
          refine x_aload_n (pc := 131) C dX3_readLine_131 rfl rfl ?_
          obtain ⟨k, h⟩ := chk_s h
          have k2 := k
          obtain ⟨k, h⟩ := chk_s h
          refine x_getR (pc := 132) C fX3_50 rfl k2 k dX3_readLine_132 ?_
          obtain ⟨k, h⟩ := chk_s h
          refine x_getI (pc := 135) C fX3_132 rfl k dX3_readLine_135 ?_
          refine x_iconst (v := 5) (pc := 138) C dX3_readLine_138 (by decide) ?_
          refine x_icmp_ge (pc := 139) (tgt := 149) C dX3_readLine_139 (by decide) (fun q => ?_) (fun q => ?_)
          · rw [if_pos q] at h
            refine x_aload_n (pc := 149) C dX3_readLine_149 rfl rfl ?_
            refine x_iconst (v := 2) (pc := 150) C dX3_readLine_150 (by decide) ?_
            obtain ⟨k, h⟩ := chk_s h
            have k2 := k
            obtain ⟨v13, σ14, k, h⟩ := bnd_s h
            refine x_callV1 (pc := 151) C (mX3_failHere E l k) cl2 k2 cX3_116 nX3_failHere sX3_failHere rfl rfl (Nat.le_of_ble_eq_true rfl) ⟨Nat.le_of_ble_eq_true rfl, Nat.le_of_ble_eq_true rfl, Nat.le_of_ble_eq_true rfl, Nat.le_of_ble_eq_true rfl⟩ dX3_readLine_151 ?_
            exact x_sub (tX3_readLine_154 C hr h) (xLe_n xLe_0)
          · rw [if_neg q] at h
            refine x_aload_n (pc := 142) C dX3_readLine_142 rfl rfl ?_
            obtain ⟨k, h⟩ := chk_s h
            have k2 := k
            obtain ⟨v15, σ16, k, h⟩ := bnd_s h
            refine x_callV1 (pc := 143) C (mX3_readBand E l k) cl2 k2 cX3_135 nX3_readBand sX3_readBand rfl rfl (Nat.le_of_ble_eq_true rfl) ⟨Nat.le_of_ble_eq_true rfl, Nat.le_of_ble_eq_true rfl, Nat.le_of_ble_eq_true rfl, Nat.le_of_ble_eq_true rfl⟩ dX3_readLine_143 ?_
            refine x_goto (tgt := 154) (pc := 146) C dX3_readLine_146 (by decide) ?_
            exact x_sub (tX3_readLine_154 C hr h) (xLe_n xLe_0)
        · rw [if_neg q3] at h
          refine br_em (c := (swm.getD (nI ((gR σ l0 4) - 1000)).toNatClampNeg 0) = 5) (fun q4 => ?_) (fun q4 => ?_)
          · rw [if_pos q4] at h
            refine x_switchIn (pc := 11) (tgt := 155) C dX3_readLine_11 (by rw [q4]; decide) (by rw [q4]; decide) (o := 144) (by rw [q4]; rfl) (by decide) ?_
            refine x_aload_n (pc := 155) C dX3_readLine_155 rfl rfl ?_
            obtain ⟨k, h⟩ := chk_s h
            have k2 := k
            obtain ⟨k, h⟩ := chk_s h
            refine x_getR (pc := 156) C fX3_50 rfl k2 k dX3_readLine_156 ?_
            obtain ⟨k, h⟩ := chk_s h
            refine x_getI (pc := 159) C fX3_138 rfl k dX3_readLine_159 ?_
            refine x_bipush (v := 16) (pc := 162) C dX3_readLine_162 (by decide) ?_
            refine x_icmp_ge (pc := 164) (tgt := 174) C dX3_readLine_164 (by decide) (fun q => ?_) (fun q => ?_)
            · rw [if_pos q] at h
              refine x_aload_n (pc := 174) C dX3_readLine_174 rfl rfl ?_
              refine x_iconst (v := 2) (pc := 175) C dX3_readLine_175 (by decide) ?_
              obtain ⟨k, h⟩ := chk_s h
              have k2 := k
              obtain ⟨v17, σ18, k, h⟩ := bnd_s h
              refine x_callV1 (pc := 176) C (mX3_failHere E l k) cl2 k2 cX3_116 nX3_failHere sX3_failHere rfl rfl (Nat.le_of_ble_eq_true rfl) ⟨Nat.le_of_ble_eq_true rfl, Nat.le_of_ble_eq_true rfl, Nat.le_of_ble_eq_true rfl, Nat.le_of_ble_eq_true rfl⟩ dX3_readLine_176 ?_
              exact x_sub (tX3_readLine_179 C hr h) (xLe_n xLe_0)
            · rw [if_neg q] at h
              refine x_aload_n (pc := 167) C dX3_readLine_167 rfl rfl ?_
              obtain ⟨k, h⟩ := chk_s h
              have k2 := k
              obtain ⟨v19, σ20, k, h⟩ := bnd_s h
              refine x_callV1 (pc := 168) C (mX3_readProviso E l k) cl2 k2 cX3_141 nX3_readProviso sX3_readProviso rfl rfl (Nat.le_of_ble_eq_true rfl) ⟨Nat.le_of_ble_eq_true rfl, Nat.le_of_ble_eq_true rfl, Nat.le_of_ble_eq_true rfl, Nat.le_of_ble_eq_true rfl⟩ dX3_readLine_168 ?_
              refine x_goto (tgt := 179) (pc := 171) C dX3_readLine_171 (by decide) ?_
              exact x_sub (tX3_readLine_179 C hr h) (xLe_n xLe_0)
          · rw [if_neg q4] at h
            refine br_em (c := (swm.getD (nI ((gR σ l0 4) - 1000)).toNatClampNeg 0) = 6) (fun q5 => ?_) (fun q5 => ?_)
            · rw [if_pos q5] at h
              refine x_switchIn (pc := 11) (tgt := 180) C dX3_readLine_11 (by rw [q5]; decide) (by rw [q5]; decide) (o := 169) (by rw [q5]; rfl) (by decide) ?_
              refine x_aload_n (pc := 180) C dX3_readLine_180 rfl rfl ?_
              obtain ⟨k, h⟩ := chk_s h
              have k2 := k
              obtain ⟨k, h⟩ := chk_s h
              refine x_getR (pc := 181) C fX3_50 rfl k2 k dX3_readLine_181 ?_
              obtain ⟨k, h⟩ := chk_s h
              refine x_getI (pc := 184) C fX3_144 rfl k dX3_readLine_184 ?_
              refine x_bipush (v := 16) (pc := 187) C dX3_readLine_187 (by decide) ?_
              refine x_icmp_ge (pc := 189) (tgt := 199) C dX3_readLine_189 (by decide) (fun q => ?_) (fun q => ?_)
              · rw [if_pos q] at h
                refine x_aload_n (pc := 199) C dX3_readLine_199 rfl rfl ?_
                refine x_iconst (v := 2) (pc := 200) C dX3_readLine_200 (by decide) ?_
                obtain ⟨k, h⟩ := chk_s h
                have k2 := k
                obtain ⟨v21, σ22, k, h⟩ := bnd_s h
                refine x_callV1 (pc := 201) C (mX3_failHere E l k) cl2 k2 cX3_116 nX3_failHere sX3_failHere rfl rfl (Nat.le_of_ble_eq_true rfl) ⟨Nat.le_of_ble_eq_true rfl, Nat.le_of_ble_eq_true rfl, Nat.le_of_ble_eq_true rfl, Nat.le_of_ble_eq_true rfl⟩ dX3_readLine_201 ?_
                exact x_sub (tX3_readLine_204 C hr h) (xLe_n xLe_0)
              · rw [if_neg q] at h
                refine x_aload_n (pc := 192) C dX3_readLine_192 rfl rfl ?_
                obtain ⟨k, h⟩ := chk_s h
                have k2 := k
                obtain ⟨v23, σ24, k, h⟩ := bnd_s h
                refine x_callV1 (pc := 193) C (mX3_readBase E l k) cl2 k2 cX3_147 nX3_readBase sX3_readBase rfl rfl (Nat.le_of_ble_eq_true rfl) ⟨Nat.le_of_ble_eq_true rfl, Nat.le_of_ble_eq_true rfl, Nat.le_of_ble_eq_true rfl, Nat.le_of_ble_eq_true rfl⟩ dX3_readLine_193 ?_
                refine x_goto (tgt := 204) (pc := 196) C dX3_readLine_196 (by decide) ?_
                exact x_sub (tX3_readLine_204 C hr h) (xLe_n xLe_0)
            · rw [if_neg q5] at h
              refine br_em (c := (swm.getD (nI ((gR σ l0 4) - 1000)).toNatClampNeg 0) = 7) (fun q6 => ?_) (fun q6 => ?_)
              · rw [if_pos q6] at h
                refine x_switchIn (pc := 11) (tgt := 205) C dX3_readLine_11 (by rw [q6]; decide) (by rw [q6]; decide) (o := 194) (by rw [q6]; rfl) (by decide) ?_
                refine x_aload_n (pc := 205) C dX3_readLine_205 rfl rfl ?_
                obtain ⟨k, h⟩ := chk_s h
                have k2 := k
                obtain ⟨k, h⟩ := chk_s h
                refine x_getR (pc := 206) C fX3_50 rfl k2 k dX3_readLine_206 ?_
                obtain ⟨k, h⟩ := chk_s h
                refine x_getI (pc := 209) C fX3_150 rfl k dX3_readLine_209 ?_
                refine x_if_eq (pc := 212) (tgt := 223) C dX3_readLine_212 (by decide) (fun q => ?_) (fun q => ?_)
                · rw [if_pos q] at h
                  refine x_aload_n (pc := 223) C dX3_readLine_223 rfl rfl ?_
                  obtain ⟨k, h⟩ := chk_s h
                  have k2 := k
                  obtain ⟨v25, σ26, k, h⟩ := bnd_s h
                  refine x_callV1 (pc := 224) C (mX3_readRate E l k) cl2 k2 cX3_154 nX3_readRate sX3_readRate rfl rfl (Nat.le_of_ble_eq_true rfl) ⟨Nat.le_of_ble_eq_true rfl, Nat.le_of_ble_eq_true rfl, Nat.le_of_ble_eq_true rfl, Nat.le_of_ble_eq_true rfl⟩ dX3_readLine_224 ?_
                  exact x_sub (tX3_readLine_227 C hr h) (xLe_n xLe_0)
                · rw [if_neg q] at h
                  refine x_aload_n (pc := 215) C dX3_readLine_215 rfl rfl ?_
                  refine x_iconst (v := 3) (pc := 216) C dX3_readLine_216 (by decide) ?_
                  obtain ⟨k, h⟩ := chk_s h
                  have k2 := k
                  obtain ⟨v27, σ28, k, h⟩ := bnd_s h
                  refine x_callV1 (pc := 217) C (mX3_failHere E l k) cl2 k2 cX3_116 nX3_failHere sX3_failHere rfl rfl (Nat.le_of_ble_eq_true rfl) ⟨Nat.le_of_ble_eq_true rfl, Nat.le_of_ble_eq_true rfl, Nat.le_of_ble_eq_true rfl, Nat.le_of_ble_eq_true rfl⟩ dX3_readLine_217 ?_
                  refine x_goto (tgt := 227) (pc := 220) C dX3_readLine_220 (by decide) ?_
                  exact x_sub (tX3_readLine_227 C hr h) (xLe_n xLe_0)
              · rw [if_neg q6] at h
                refine br_em (c := (swm.getD (nI ((gR σ l0 4) - 1000)).toNatClampNeg 0) = 8) (fun q7 => ?_) (fun q7 => ?_)
                · rw [if_pos q7] at h
                  refine x_switchIn (pc := 11) (tgt := 228) C dX3_readLine_11 (by rw [q7]; decide) (by rw [q7]; decide) (o := 217) (by rw [q7]; rfl) (by decide) ?_
                  refine x_aload_n (pc := 228) C dX3_readLine_228 rfl rfl ?_
                  obtain ⟨k, h⟩ := chk_s h
                  have k2 := k
                  obtain ⟨k, h⟩ := chk_s h
                  refine x_getR (pc := 229) C fX3_50 rfl k2 k dX3_readLine_229 ?_
                  obtain ⟨k, h⟩ := chk_s h
                  refine x_getI (pc := 232) C fX3_157 rfl k dX3_readLine_232 ?_
                  refine x_bipush (v := 8) (pc := 235) C dX3_readLine_235 (by decide) ?_
                  refine x_icmp_ge (pc := 237) (tgt := 247) C dX3_readLine_237 (by decide) (fun q => ?_) (fun q => ?_)
                  · rw [if_pos q] at h
                    refine x_aload_n (pc := 247) C dX3_readLine_247 rfl rfl ?_
                    refine x_iconst (v := 2) (pc := 248) C dX3_readLine_248 (by decide) ?_
                    obtain ⟨k, h⟩ := chk_s h
                    have k2 := k
                    obtain ⟨v29, σ30, k, h⟩ := bnd_s h
                    refine x_callV1 (pc := 249) C (mX3_failHere E l k) cl2 k2 cX3_116 nX3_failHere sX3_failHere rfl rfl (Nat.le_of_ble_eq_true rfl) ⟨Nat.le_of_ble_eq_true rfl, Nat.le_of_ble_eq_true rfl, Nat.le_of_ble_eq_true rfl, Nat.le_of_ble_eq_true rfl⟩ dX3_readLine_249 ?_
                    exact x_sub (tX3_readLine_252 C hr h) (xLe_n xLe_0)
                  · rw [if_neg q] at h
                    refine x_aload_n (pc := 240) C dX3_readLine_240 rfl rfl ?_
                    obtain ⟨k, h⟩ := chk_s h
                    have k2 := k
                    obtain ⟨v31, σ32, k, h⟩ := bnd_s h
                    refine x_callV1 (pc := 241) C (mX3_readTicket E l k) cl2 k2 cX3_160 nX3_readTicket sX3_readTicket rfl rfl (Nat.le_of_ble_eq_true rfl) ⟨Nat.le_of_ble_eq_true rfl, Nat.le_of_ble_eq_true rfl, Nat.le_of_ble_eq_true rfl, Nat.le_of_ble_eq_true rfl⟩ dX3_readLine_241 ?_
                    refine x_goto (tgt := 252) (pc := 244) C dX3_readLine_244 (by decide) ?_
                    exact x_sub (tX3_readLine_252 C hr h) (xLe_n xLe_0)
                · rw [if_neg q7] at h
                  have eq0 := sw_ne (k := 1) q0 (by decide)
                  have eq1 := sw_ne (k := 2) q1 (by decide)
                  have eq2 := sw_ne (k := 3) q2 (by decide)
                  have eq3 := sw_ne (k := 4) q3 (by decide)
                  have eq4 := sw_ne (k := 5) q4 (by decide)
                  have eq5 := sw_ne (k := 6) q5 (by decide)
                  have eq6 := sw_ne (k := 7) q6 (by decide)
                  have eq7 := sw_ne (k := 8) q7 (by decide)
                  refine x_switchOut (pc := 11) (tgt := 253) C dX3_readLine_11 (by omega) (by decide) ?_
                  refine x_aload_n (pc := 253) C dX3_readLine_253 rfl rfl ?_
                  refine x_iconst (v := 1) (pc := 254) C dX3_readLine_254 (by decide) ?_
                  obtain ⟨k, h⟩ := chk_s h
                  have k2 := k
                  obtain ⟨v33, σ34, k, h⟩ := bnd_s h
                  refine x_callV1 (pc := 255) C (mX3_failHere E l k) cl2 k2 cX3_116 nX3_failHere sX3_failHere rfl rfl (Nat.le_of_ble_eq_true rfl) ⟨Nat.le_of_ble_eq_true rfl, Nat.le_of_ble_eq_true rfl, Nat.le_of_ble_eq_true rfl, Nat.le_of_ble_eq_true rfl⟩ dX3_readLine_255 ?_
                  obtain ⟨kz, h⟩ := chk_s h
                  cases h
                  exact x_zret C hr (nar_01 kz) dX3_readLine_258
end

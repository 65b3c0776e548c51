section
variable {E : Ev} {p : Program} {l : Launch} {e : Env} {s : State} {m : MethodId} {args : Array Value} {below : List Frame} {meth : Method} {c : Code}
def DX8_cents_49 (K6 : Nat → Int32 → Int64 → Int32 → Sg → Option (Unit × Sg)) (l0 : Nat) (l1 : Int32) (l6 : Int32) (s0 : Int64) (s1 : Int64) (σ : Sg) : Option (Unit × Sg) :=
  K6 l0 l1 (s0 - s1) (l6 + (1 : Int32)) σ
theorem tX8_cents_49 {r : Unit} {σ' : Sg} (C : Cx E p s m args meth c RX8 cX8_cents 11) (hr : meth.sig.returnType = none) {K6 : Nat → Int32 → Int64 → Int32 → Sg → Option (Unit × Sg)} (hK6 : ∀ (l0 : Nat) (l1 : Int32) (l4 : Int64) (l6 : Int32) (σ : Sg), K6 l0 l1 l4 l6 σ = some (r, σ') → Y E p l e (rmA 1 0 0) s m args below meth c none σ' 0 0 11 0 0 σ 6 [some (.ref (ad E l0)), some (.int l1), none, none, some (.long l4), none, some (.int l6), none, none, none, none] []) {l0 : Nat} {l1 : Int32} {l6 : Int32} {s0 : Int64} {s1 : Int64} {σ : Sg} (h : DX8_cents_49 K6 l0 l1 l6 s0 s1 σ = some (r, σ')) : Y E p l e (rmA 1 0 0) s m args below meth c none σ' 0 0 11 0 0 σ 49 [some (.ref (ad E l0)), some (.int l1), none, none, none, none, some (.int l6), none, none, none, none] [.long s1, .long s0] := by
  unfold DX8_cents_49 at h
  refine x_lsub (pc := 49) C dX8_cents_49 ?_
  refine x_lstore (M := [some _, some _, none, none, some _, none, some _, none, none, none, none]) (pc := 50) C dX8_cents_50 (by decide) rfl ?_
  refine x_iinc (v := 1) (M := [some _, some _, none, none, some _, none, some _, none, none, none, none]) (pc := 52) C dX8_cents_52 rfl (by decide) (by decide) rfl ?_
  refine x_goto (tgt := 6) (pc := 55) C dX8_cents_55 (by decide) ?_
  exact x_sub (hK6 _ _ _ _ _ h) (xLe_s (xLe_s (xLe_n (xLe_n (xLe_s (xLe_n (xLe_s (xLe_n (xLe_n (xLe_n (xLe_n xLe_0)))))))))))
def DX8_cents_141 (K68 : Nat → Int32 → Int64 → Int32 → Sg → Option (Unit × Sg)) (K80 : Nat → Int32 → Int64 → Int32 → Int32 → Int32 → Sg → Option (Unit × Sg)) (l0 : Nat) (l1 : Int32) (l4 : Int64) (l6 : Int32) (l8 : Int32) (s0 : Int32) (s1 : Int32) (σ : Sg) : Option (Unit × Sg) :=
  K80 l0 l1 l4 l6 (s0 + s1) (l8 + (1 : Int32)) σ
theorem tX8_cents_141 {r : Unit} {σ' : Sg} (C : Cx E p s m args meth c RX8 cX8_cents 11) (hr : meth.sig.returnType = none) {K68 : Nat → Int32 → Int64 → Int32 → Sg → Option (Unit × Sg)} (hK68 : ∀ (l0 : Nat) (l1 : Int32) (l4 : Int64) (l6 : Int32) (σ : Sg), K68 l0 l1 l4 l6 σ = some (r, σ') → Y E p l e (rmA 1 0 0) s m args below meth c none σ' 0 0 11 0 0 σ 68 [some (.ref (ad E l0)), some (.int l1), none, none, some (.long l4), none, some (.int l6), none, none, none, none] []) {K80 : Nat → Int32 → Int64 → Int32 → Int32 → Int32 → Sg → Option (Unit × Sg)} (hK80 : ∀ (l0 : Nat) (l1 : Int32) (l4 : Int64) (l6 : Int32) (l7 : Int32) (l8 : Int32) (σ : Sg), K80 l0 l1 l4 l6 l7 l8 σ = some (r, σ') → Y E p l e (rmA 1 0 0) s m args below meth c none σ' 0 0 11 0 0 σ 80 [some (.ref (ad E l0)), some (.int l1), none, none, some (.long l4), none, some (.int l6), some (.int l7), some (.int l8), none, none] []) {l0 : Nat} {l1 : Int32} {l4 : Int64} {l6 : Int32} {l8 : Int32} {s0 : Int32} {s1 : Int32} {σ : Sg} (h : DX8_cents_141 K68 K80 l0 l1 l4 l6 l8 s0 s1 σ = some (r, σ')) : Y E p l e (rmA 1 0 0) s m args below meth c none σ' 0 0 11 0 0 σ 141 [some (.ref (ad E l0)), some (.int l1), none, none, some (.long l4), none, some (.int l6), none, some (.int l8), none, none] [.int s1, .int s0] := by
  unfold DX8_cents_141 at h
  refine x_iadd (pc := 141) C dX8_cents_141 ?_
  refine x_istore (M := [some _, some _, none, none, some _, none, some _, some _, some _, none, none]) (pc := 142) C dX8_cents_142 (by decide) rfl ?_
  refine x_iinc (v := 1) (M := [some _, some _, none, none, some _, none, some _, some _, some _, none, none]) (pc := 144) C dX8_cents_144 rfl (by decide) (by decide) rfl ?_
  refine x_goto (tgt := 80) (pc := 147) C dX8_cents_147 (by decide) ?_
  exact x_sub (hK80 _ _ _ _ _ _ _ h) (xLe_s (xLe_s (xLe_n (xLe_n (xLe_s (xLe_n (xLe_s (xLe_s (xLe_s (xLe_n (xLe_n xLe_0)))))))))))
def DX8_cents_136 (K68 : Nat → Int32 → Int64 → Int32 → Sg → Option (Unit × Sg)) (K80 : Nat → Int32 → Int64 → Int32 → Int32 → Int32 → Sg → Option (Unit × Sg)) (l0 : Nat) (l1 : Int32) (l4 : Int64) (l6 : Int32) (l8 : Int32) (s0 : Int32) (σ : Sg) : Option (Unit × Sg) :=
  DX8_cents_141 K68 K80 l0 l1 l4 l6 l8 s0 (1 : Int32) σ
theorem tX8_cents_136 {r : Unit} {σ' : Sg} (C : Cx E p s m args meth c RX8 cX8_cents 11) (hr : meth.sig.returnType = none) {K68 : Nat → Int32 → Int64 → Int32 → Sg → Option (Unit × Sg)} (hK68 : ∀ (l0 : Nat) (l1 : Int32) (l4 : Int64) (l6 : Int32) (σ : Sg), K68 l0 l1 l4 l6 σ = some (r, σ') → Y E p l e (rmA 1 0 0) s m args below meth c none σ' 0 0 11 0 0 σ 68 [some (.ref (ad E l0)), some (.int l1), none, none, some (.long l4), none, some (.int l6), none, none, none, none] []) {K80 : Nat → Int32 → Int64 → Int32 → Int32 → Int32 → Sg → Option (Unit × Sg)} (hK80 : ∀ (l0 : Nat) (l1 : Int32) (l4 : Int64) (l6 : Int32) (l7 : Int32) (l8 : Int32) (σ : Sg), K80 l0 l1 l4 l6 l7 l8 σ = some (r, σ') → Y E p l e (rmA 1 0 0) s m args below meth c none σ' 0 0 11 0 0 σ 80 [some (.ref (ad E l0)), some (.int l1), none, none, some (.long l4), none, some (.int l6), some (.int l7), some (.int l8), none, none] []) {l0 : Nat} {l1 : Int32} {l4 : Int64} {l6 : Int32} {l8 : Int32} {s0 : Int32} {σ : Sg} (h : DX8_cents_136 K68 K80 l0 l1 l4 l6 l8 s0 σ = some (r, σ')) : Y E p l e (rmA 1 0 0) s m args below meth c none σ' 0 0 11 0 0 σ 136 [some (.ref (ad E l0)), some (.int l1), none, none, some (.long l4), none, some (.int l6), none, some (.int l8), none, none] [.int s0] := by
  unfold DX8_cents_136 at h
  refine x_iconst (v := 1) (pc := 136) C dX8_cents_136 (by decide) ?_
  refine x_goto (tgt := 141) (pc := 137) C dX8_cents_137 (by decide) ?_
  exact x_sub (tX8_cents_141 C hr hK68 hK80 h) (xLe_s (xLe_s (xLe_n (xLe_n (xLe_s (xLe_n (xLe_s (xLe_n (xLe_s (xLe_n (xLe_n xLe_0)))))))))))
def DX8_cents_140 (K68 : Nat → Int32 → Int64 → Int32 → Sg → Option (Unit × Sg)) (K80 : Nat → Int32 → Int64 → Int32 → Int32 → Int32 → Sg → Option (Unit × Sg)) (l0 : Nat) (l1 : Int32) (l4 : Int64) (l6 : Int32) (l8 : Int32) (s0 : Int32) (σ : Sg) : Option (Unit × Sg) :=
  DX8_cents_141 K68 K80 l0 l1 l4 l6 l8 s0 (0 : Int32) σ
theorem tX8_cents_140 {r : Unit} {σ' : Sg} (C : Cx E p s m args meth c RX8 cX8_cents 11) (hr : meth.sig.returnType = none) {K68 : Nat → Int32 → Int64 → Int32 → Sg → Option (Unit × Sg)} (hK68 : ∀ (l0 : Nat) (l1 : Int32) (l4 : Int64) (l6 : Int32) (σ : Sg), K68 l0 l1 l4 l6 σ = some (r, σ') → Y E p l e (rmA 1 0 0) s m args below meth c none σ' 0 0 11 0 0 σ 68 [some (.ref (ad E l0)), some (.int l1), none, none, some (.long l4), none, some (.int l6), none, none, none, none] []) {K80 : Nat → Int32 → Int64 → Int32 → Int32 → Int32 → Sg → Option (Unit × Sg)} (hK80 : ∀ (l0 : Nat) (l1 : Int32) (l4 : Int64) (l6 : Int32) (l7 : Int32) (l8 : Int32) (σ : Sg), K80 l0 l1 l4 l6 l7 l8 σ = some (r, σ') → Y E p l e (rmA 1 0 0) s m args below meth c none σ' 0 0 11 0 0 σ 80 [some (.ref (ad E l0)), some (.int l1), none, none, some (.long l4), none, some (.int l6), some (.int l7), some (.int l8), none, none] []) {l0 : Nat} {l1 : Int32} {l4 : Int64} {l6 : Int32} {l8 : Int32} {s0 : Int32} {σ : Sg} (h : DX8_cents_140 K68 K80 l0 l1 l4 l6 l8 s0 σ = some (r, σ')) : Y E p l e (rmA 1 0 0) s m args below meth c none σ' 0 0 11 0 0 σ 140 [some (.ref (ad E l0)), some (.int l1), none, none, some (.long l4), none, some (.int l6), none, some (.int l8), none, none] [.int s0] := by
  unfold DX8_cents_140 at h
  refine x_iconst (v := 0) (pc := 140) C dX8_cents_140 (by decide) ?_
  exact x_sub (tX8_cents_141 C hr hK68 hK80 h) (xLe_s (xLe_s (xLe_n (xLe_n (xLe_s (xLe_n (xLe_s (xLe_n (xLe_s (xLe_n (xLe_n xLe_0)))))))))))
def DX8_cents_190 (K68 : Nat → Int32 → Int64 → Int32 → Sg → Option (Unit × Sg)) (l0 : Nat) (l1 : Int32) (l4 : Int64) (l6 : Int32) (s0 : Nat) (s1 : Int32) (s2 : Int64) (s3 : Int64) (σ : Sg) : Option (Unit × Sg) :=
  chk (ckI σ s0 s1) <|
  wlet (wI σ s0 s1.toNatClampNeg ((s2 + s3).toInt32)) fun σ1 =>
  K68 l0 l1 l4 (l6 + (1 : Int32)) σ1
theorem tX8_cents_190 {r : Unit} {σ' : Sg} (C : Cx E p s m args meth c RX8 cX8_cents 11) (hr : meth.sig.returnType = none) {K68 : Nat → Int32 → Int64 → Int32 → Sg → Option (Unit × Sg)} (hK68 : ∀ (l0 : Nat) (l1 : Int32) (l4 : Int64) (l6 : Int32) (σ : Sg), K68 l0 l1 l4 l6 σ = some (r, σ') → Y E p l e (rmA 1 0 0) s m args below meth c none σ' 0 0 11 0 0 σ 68 [some (.ref (ad E l0)), some (.int l1), none, none, some (.long l4), none, some (.int l6), none, none, none, none] []) {l0 : Nat} {l1 : Int32} {l4 : Int64} {l6 : Int32} {s0 : Nat} {s1 : Int32} {s2 : Int64} {s3 : Int64} {σ : Sg} (h : DX8_cents_190 K68 l0 l1 l4 l6 s0 s1 s2 s3 σ = some (r, σ')) : Y E p l e (rmA 1 0 0) s m args below meth c none σ' 0 0 11 0 0 σ 190 [some (.ref (ad E l0)), some (.int l1), none, none, some (.long l4), none, some (.int l6), none, none, none, none] [.long s3, .long s2, .int s1, .ref (ad E s0)] := by
  unfold DX8_cents_190 at h
  refine x_ladd (pc := 190) C dX8_cents_190 ?_
  refine x_l2i (pc := 191) C dX8_cents_191 ?_
  obtain ⟨k, h⟩ := chk_s h
  obtain ⟨σ1, e1, h⟩ := wlet_s h
  refine x_iast (pc := 192) C k dX8_cents_192 (x_eq e1 ?_)
  refine x_iinc (v := 1) (M := [some _, some _, none, none, some _, none, some _, none, none, none, none]) (pc := 193) C dX8_cents_193 rfl (by decide) (by decide) rfl ?_
  refine x_goto (tgt := 68) (pc := 196) C dX8_cents_196 (by decide) ?_
  exact x_sub (hK68 _ _ _ _ _ h) (xLe_s (xLe_s (xLe_n (xLe_n (xLe_s (xLe_n (xLe_s (xLe_n (xLe_n (xLe_n (xLe_n xLe_0)))))))))))
def DX8_cents_150 (K68 : Nat → Int32 → Int64 → Int32 → Sg → Option (Unit × Sg)) (l0 : Nat) (l1 : Int32) (l4 : Int64) (l6 : Int32) (l7 : Int32) (σ : Sg) : Option (Unit × Sg) :=
  chk (ckO σ 6 l0) <|
  chk (ckV (gR σ l0 51)) <|
  chk (ckO σ 6 l0) <|
  chk (ckV (gR σ l0 40)) <|
  chk (ckJ σ (gR σ l0 40) l6) <|
  chk (ckO σ 6 l0) <|
  chk (ckV (gR σ l0 41)) <|
  chk (ckJ σ (gR σ l0 41) l6) <|
  chk (ckO σ 6 l0) <|
  chk (ckM (gJ σ l0 47)) <|
  if l4 ≤ l7.toInt64 then
    DX8_cents_190 K68 l0 l1 l4 l6 (gR σ l0 51) l6 ((aJ σ (gR σ l0 40) l6.toNatClampNeg) + ((aJ σ (gR σ l0 41) l6.toNatClampNeg) / (gJ σ l0 47))) (0 : Int64) σ
  else
    DX8_cents_190 K68 l0 l1 l4 l6 (gR σ l0 51) l6 ((aJ σ (gR σ l0 40) l6.toNatClampNeg) + ((aJ σ (gR σ l0 41) l6.toNatClampNeg) / (gJ σ l0 47))) (1 : Int64) σ
theorem tX8_cents_150 {r : Unit} {σ' : Sg} (C : Cx E p s m args meth c RX8 cX8_cents 11) (hr : meth.sig.returnType = none) {K68 : Nat → Int32 → Int64 → Int32 → Sg → Option (Unit × Sg)} (hK68 : ∀ (l0 : Nat) (l1 : Int32) (l4 : Int64) (l6 : Int32) (σ : Sg), K68 l0 l1 l4 l6 σ = some (r, σ') → Y E p l e (rmA 1 0 0) s m args below meth c none σ' 0 0 11 0 0 σ 68 [some (.ref (ad E l0)), some (.int l1), none, none, some (.long l4), none, some (.int l6), none, none, none, none] []) {l0 : Nat} {l1 : Int32} {l4 : Int64} {l6 : Int32} {l7 : Int32} {σ : Sg} (h : DX8_cents_150 K68 l0 l1 l4 l6 l7 σ = some (r, σ')) : Y E p l e (rmA 1 0 0) s m args below meth c none σ' 0 0 11 0 0 σ 150 [some (.ref (ad E l0)), some (.int l1), none, none, some (.long l4), none, some (.int l6), some (.int l7), none, none, none] [] := by
  unfold DX8_cents_150 at h
  refine x_aload_n (pc := 150) C dX8_cents_150 rfl rfl ?_
  obtain ⟨k, h⟩ := chk_s h
  have k2 := k
  obtain ⟨k, h⟩ := chk_s h
  refine x_getR (pc := 151) C fX8_88 rfl k2 k dX8_cents_151 ?_
  refine x_iload (pc := 154) C dX8_cents_154 rfl ?_
  refine x_aload_n (pc := 156) C dX8_cents_156 rfl rfl ?_
  obtain ⟨k, h⟩ := chk_s h
  have k2 := k
  obtain ⟨k, h⟩ := chk_s h
  refine x_getR (pc := 157) C fX8_65 rfl k2 k dX8_cents_157 ?_
  refine x_iload (pc := 160) C dX8_cents_160 rfl ?_
  obtain ⟨k, h⟩ := chk_s h
  refine x_lald (pc := 162) C k dX8_cents_162 ?_
  refine x_aload_n (pc := 163) C dX8_cents_163 rfl rfl ?_
  obtain ⟨k, h⟩ := chk_s h
  have k2 := k
  obtain ⟨k, h⟩ := chk_s h
  refine x_getR (pc := 164) C fX8_69 rfl k2 k dX8_cents_164 ?_
  refine x_iload (pc := 167) C dX8_cents_167 rfl ?_
  obtain ⟨k, h⟩ := chk_s h
  refine x_lald (pc := 169) C k dX8_cents_169 ?_
  refine x_aload_n (pc := 170) C dX8_cents_170 rfl rfl ?_
  obtain ⟨k, h⟩ := chk_s h
  refine x_getJ (pc := 171) C fX8_338 rfl k dX8_cents_171 ?_
  obtain ⟨k, h⟩ := chk_s h
  refine x_ldiv (pc := 174) C dX8_cents_174 (ckM_s k) ?_
  refine x_ladd (pc := 175) C dX8_cents_175 ?_
  refine x_iload (pc := 176) C dX8_cents_176 rfl ?_
  refine x_i2l (pc := 178) C dX8_cents_178 ?_
  refine x_lload (pc := 179) C dX8_cents_179 rfl ?_
  refine x_lcmp (pc := 181) C dX8_cents_181 ?_
  refine x_lif_ge (pc := 182) (tgt := 189) C dX8_cents_182 (by decide) (fun q => ?_) (fun q => ?_)
  · rw [if_pos q] at h
    refine x_lconst (v := 0) (pc := 189) C dX8_cents_189 (by decide) ?_
    exact x_sub (tX8_cents_190 C hr hK68 h) (xLe_s (xLe_s (xLe_n (xLe_n (xLe_s (xLe_n (xLe_s (xLe_n (xLe_n (xLe_n (xLe_n xLe_0)))))))))))
  · rw [if_neg q] at h
    refine x_lconst (v := 1) (pc := 185) C dX8_cents_185 (by decide) ?_
    refine x_goto (tgt := 190) (pc := 186) C dX8_cents_186 (by decide) ?_
    exact x_sub (tX8_cents_190 C hr hK68 h) (xLe_s (xLe_s (xLe_n (xLe_n (xLe_s (xLe_n (xLe_s (xLe_n (xLe_n (xLe_n (xLe_n xLe_0)))))))))))
def DX8_cents_80 (K68 : Nat → Int32 → Int64 → Int32 → Sg → Option (Unit × Sg)) : Nat → Nat → Int32 → Int64 → Int32 → Int32 → Int32 → Sg → Option (Unit × Sg)
  | 0, _, _, _, _, _, _, _ => none
  | n + 1, l0, l1, l4, l6, l7, l8, σ =>
    if l1 ≤ l8 then
      DX8_cents_150 K68 l0 l1 l4 l6 l7 σ
    else
      chk (ckO σ 6 l0) <|
      chk (ckV (gR σ l0 41)) <|
      chk (ckJ σ (gR σ l0 41) l8) <|
      chk (ckO σ 6 l0) <|
      chk (ckM (gJ σ l0 47)) <|
      chk (ckO σ 6 l0) <|
      chk (ckV (gR σ l0 41)) <|
      chk (ckJ σ (gR σ l0 41) l6) <|
      chk (ckO σ 6 l0) <|
      chk (ckM (gJ σ l0 47)) <|
      if (0 : Int64) < (((aJ σ (gR σ l0 41) l8.toNatClampNeg) - (aJ σ (gR σ l0 41) l8.toNatClampNeg) / (gJ σ l0 47) * (gJ σ l0 47)) - ((aJ σ (gR σ l0 41) l6.toNatClampNeg) - (aJ σ (gR σ l0 41) l6.toNatClampNeg) / (gJ σ l0 47) * (gJ σ l0 47))) then
        DX8_cents_136 K68 (DX8_cents_80 K68 n) l0 l1 l4 l6 l8 l7 σ
      else
        if (((aJ σ (gR σ l0 41) l8.toNatClampNeg) - (aJ σ (gR σ l0 41) l8.toNatClampNeg) / (gJ σ l0 47) * (gJ σ l0 47)) - ((aJ σ (gR σ l0 41) l6.toNatClampNeg) - (aJ σ (gR σ l0 41) l6.toNatClampNeg) / (gJ σ l0 47) * (gJ σ l0 47))) = (0 : Int64) then
          if l6 ≤ l8 then
            DX8_cents_140 K68 (DX8_cents_80 K68 n) l0 l1 l4 l6 l8 l7 σ
          else
            DX8_cents_136 K68 (DX8_cents_80 K68 n) l0 l1 l4 l6 l8 l7 σ
        else
          DX8_cents_140 K68 (DX8_cents_80 K68 n) l0 l1 l4 l6 l8 l7 σ
theorem tX8_cents_80 {r : Unit} {σ' : Sg} (C : Cx E p s m args meth c RX8 cX8_cents 11) (hr : meth.sig.returnType = none) {K68 : Nat → Int32 → Int64 → Int32 → Sg → Option (Unit × Sg)} (hK68 : ∀ (l0 : Nat) (l1 : Int32) (l4 : Int64) (l6 : Int32) (σ : Sg), K68 l0 l1 l4 l6 σ = some (r, σ') → Y E p l e (rmA 1 0 0) s m args below meth c none σ' 0 0 11 0 0 σ 68 [some (.ref (ad E l0)), some (.int l1), none, none, some (.long l4), none, some (.int l6), none, none, none, none] []) : ∀ (n : Nat) (l0 : Nat) (l1 : Int32) (l4 : Int64) (l6 : Int32) (l7 : Int32) (l8 : Int32) (σ : Sg) (h : DX8_cents_80 K68 n l0 l1 l4 l6 l7 l8 σ = some (r, σ')), Y E p l e (rmA 1 0 0) s m args below meth c none σ' 0 0 11 0 0 σ 80 [some (.ref (ad E l0)), some (.int l1), none, none, some (.long l4), none, some (.int l6), some (.int l7), some (.int l8), none, none] [] := by
  intro n
  induction n with
  | zero => intro l0 l1 l4 l6 l7 l8 σ h; cases h
  | succ n ih =>
    intro l0 l1 l4 l6 l7 l8 σ h
    unfold DX8_cents_80 at h
    refine x_iload (pc := 80) C dX8_cents_80 rfl ?_
    refine x_iload_n (pc := 82) C dX8_cents_82 rfl rfl ?_
    refine x_icmp_ge (pc := 83) (tgt := 150) C dX8_cents_83 (by decide) (fun q => ?_) (fun q => ?_)
    · rw [if_pos q] at h
      exact x_sub (tX8_cents_150 C hr hK68 h) (xLe_s (xLe_s (xLe_n (xLe_n (xLe_s (xLe_n (xLe_s (xLe_s (xLe_n (xLe_n (xLe_n xLe_0)))))))))))
    · rw [if_neg q] at h
      refine x_aload_n (pc := 86) C dX8_cents_86 rfl rfl ?_
      obtain ⟨k, h⟩ := chk_s h
      have k2 := k
      obtain ⟨k, h⟩ := chk_s h
      refine x_getR (pc := 87) C fX8_69 rfl k2 k dX8_cents_87 ?_
      refine x_iload (pc := 90) C dX8_cents_90 rfl ?_
      obtain ⟨k, h⟩ := chk_s h
      refine x_lald (pc := 92) C k dX8_cents_92 ?_
      refine x_aload_n (pc := 93) C dX8_cents_93 rfl rfl ?_
      obtain ⟨k, h⟩ := chk_s h
      refine x_getJ (pc := 94) C fX8_338 rfl k dX8_cents_94 ?_
      obtain ⟨k, h⟩ := chk_s h
      refine x_lrem (pc := 97) C dX8_cents_97 (ckM_s k) ?_
      refine x_aload_n (pc := 98) C dX8_cents_98 rfl rfl ?_
      obtain ⟨k, h⟩ := chk_s h
      have k2 := k
      obtain ⟨k, h⟩ := chk_s h
      refine x_getR (pc := 99) C fX8_69 rfl k2 k dX8_cents_99 ?_
      refine x_iload (pc := 102) C dX8_cents_102 rfl ?_
      obtain ⟨k, h⟩ := chk_s h
      refine x_lald (pc := 104) C k dX8_cents_104 ?_
      refine x_aload_n (pc := 105) C dX8_cents_105 rfl rfl ?_
      obtain ⟨k, h⟩ := chk_s h
      refine x_getJ (pc := 106) C fX8_338 rfl k dX8_cents_106 ?_
      obtain ⟨k, h⟩ := chk_s h
      refine x_lrem (pc := 109) C dX8_cents_109 (ckM_s k) ?_
      refine x_lsub (pc := 110) C dX8_cents_110 ?_
      refine x_lstore (M := [some _, some _, none, none, some _, none, some _, some _, some _, some _, none]) (pc := 111) C dX8_cents_111 (by decide) rfl ?_
      refine x_iload (pc := 113) C dX8_cents_113 rfl ?_
      refine x_lload (pc := 115) C dX8_cents_115 rfl ?_
      refine x_lconst (v := 0) (pc := 117) C dX8_cents_117 (by decide) ?_
      refine x_lcmp (pc := 118) C dX8_cents_118 ?_
      refine x_lif_gt (pc := 119) (tgt := 136) C dX8_cents_119 (by decide) (fun q => ?_) (fun q => ?_)
      · rw [if_pos q] at h
        exact x_sub (tX8_cents_136 C hr hK68 ih h) (xLe_s (xLe_s (xLe_n (xLe_n (xLe_s (xLe_n (xLe_s (xLe_n (xLe_s (xLe_n (xLe_n xLe_0)))))))))))
      · rw [if_neg q] at h
        refine x_lload (pc := 122) C dX8_cents_122 rfl ?_
        refine x_lconst (v := 0) (pc := 124) C dX8_cents_124 (by decide) ?_
        refine x_lcmp (pc := 125) C dX8_cents_125 ?_
        refine x_lif_ne (pc := 126) (tgt := 140) C dX8_cents_126 (by decide) (fun q => ?_) (fun q => ?_)
        · rw [if_pos q] at h
          refine x_iload (pc := 129) C dX8_cents_129 rfl ?_
          refine x_iload (pc := 131) C dX8_cents_131 rfl ?_
          refine x_icmp_ge (pc := 133) (tgt := 140) C dX8_cents_133 (by decide) (fun q => ?_) (fun q => ?_)
          · rw [if_pos q] at h
            exact x_sub (tX8_cents_140 C hr hK68 ih h) (xLe_s (xLe_s (xLe_n (xLe_n (xLe_s (xLe_n (xLe_s (xLe_n (xLe_s (xLe_n (xLe_n xLe_0)))))))))))
          · rw [if_neg q] at h
            exact x_sub (tX8_cents_136 C hr hK68 ih h) (xLe_s (xLe_s (xLe_n (xLe_n (xLe_s (xLe_n (xLe_s (xLe_n (xLe_s (xLe_n (xLe_n xLe_0)))))))))))
        · rw [if_neg q] at h
          exact x_sub (tX8_cents_140 C hr hK68 ih h) (xLe_s (xLe_s (xLe_n (xLe_n (xLe_s (xLe_n (xLe_s (xLe_n (xLe_s (xLe_n (xLe_n xLe_0)))))))))))
def DX8_cents_199 (σ : Sg) : Option (Unit × Sg) :=
  some ((), σ)
theorem tX8_cents_199 {r : Unit} {σ' : Sg} (C : Cx E p s m args meth c RX8 cX8_cents 11) (hr : meth.sig.returnType = none) {σ : Sg} (h : DX8_cents_199  σ = some (r, σ')) : Y E p l e (rmA 1 0 0) s m args below meth c none σ' 0 0 11 0 0 σ 199 [none, none, none, none, none, none, none, none, none, none, none] [] := by
  unfold DX8_cents_199 at h
  cases h
  exact x_vret C hr dX8_cents_199
def DX8_cents_68 : Nat → Nat → Int32 → Int64 → Int32 → Sg → Option (Unit × Sg)
  | 0, _, _, _, _, _ => none
  | n + 1, l0, l1, l4, l6, σ =>
    if l1 ≤ l6 then
      DX8_cents_199 σ
    else
      DX8_cents_80 (DX8_cents_68 n) FU l0 l1 l4 l6 (0 : Int32) (0 : Int32) σ
theorem tX8_cents_68 {r : Unit} {σ' : Sg} (C : Cx E p s m args meth c RX8 cX8_cents 11) (hr : meth.sig.returnType = none) : ∀ (n : Nat) (l0 : Nat) (l1 : Int32) (l4 : Int64) (l6 : Int32) (σ : Sg) (h : DX8_cents_68 n l0 l1 l4 l6 σ = some (r, σ')), Y E p l e (rmA 1 0 0) s m args below meth c none σ' 0 0 11 0 0 σ 68 [some (.ref (ad E l0)), some (.int l1), none, none, some (.long l4), none, some (.int l6), none, none, none, none] [] := by
  intro n
  induction n with
  | zero => intro l0 l1 l4 l6 σ h; cases h
  | succ n ih =>
    intro l0 l1 l4 l6 σ h
    unfold DX8_cents_68 at h
    refine x_iload (pc := 68) C dX8_cents_68 rfl ?_
    refine x_iload_n (pc := 70) C dX8_cents_70 rfl rfl ?_
    refine x_icmp_ge (pc := 71) (tgt := 199) C dX8_cents_71 (by decide) (fun q => ?_) (fun q => ?_)
    · rw [if_pos q] at h
      exact x_sub (tX8_cents_199 C hr h) (xLe_n (xLe_n (xLe_n (xLe_n (xLe_n (xLe_n (xLe_n (xLe_n (xLe_n (xLe_n (xLe_n xLe_0)))))))))))
    · rw [if_neg q] at h
      refine x_iconst (v := 0) (pc := 74) C dX8_cents_74 (by decide) ?_
      refine x_istore (M := [some _, some _, none, none, some _, none, some _, some _, none, none, none]) (pc := 75) C dX8_cents_75 (by decide) rfl ?_
      refine x_iconst (v := 0) (pc := 77) C dX8_cents_77 (by decide) ?_
      refine x_istore (M := [some _, some _, none, none, some _, none, some _, some _, some _, none, none]) (pc := 78) C dX8_cents_78 (by decide) rfl ?_
      exact x_sub (tX8_cents_80 C hr ih FU _ _ _ _ _ _ _ h) (xLe_s (xLe_s (xLe_n (xLe_n (xLe_s (xLe_n (xLe_s (xLe_s (xLe_s (xLe_n (xLe_n xLe_0)))))))))))
def DX8_cents_58 (l0 : Nat) (l1 : Int32) (l4 : Int64) (σ : Sg) : Option (Unit × Sg) :=
  chk (ckO σ 6 l0) <|
  wlet (pI σ l0 50 l4.toInt32) fun σ1 =>
  DX8_cents_68 FU l0 l1 l4 (0 : Int32) σ1
theorem tX8_cents_58 {r : Unit} {σ' : Sg} (C : Cx E p s m args meth c RX8 cX8_cents 11) (hr : meth.sig.returnType = none) {l0 : Nat} {l1 : Int32} {l4 : Int64} {σ : Sg} (h : DX8_cents_58 l0 l1 l4 σ = some (r, σ')) : Y E p l e (rmA 1 0 0) s m args below meth c none σ' 0 0 11 0 0 σ 58 [some (.ref (ad E l0)), some (.int l1), none, none, some (.long l4), none, none, none, none, none, none] [] := by
  unfold DX8_cents_58 at h
  refine x_aload_n (pc := 58) C dX8_cents_58 rfl rfl ?_
  refine x_lload (pc := 59) C dX8_cents_59 rfl ?_
  refine x_l2i (pc := 61) C dX8_cents_61 ?_
  obtain ⟨k, h⟩ := chk_s h
  obtain ⟨σ1, e1, h⟩ := wlet_s h
  refine x_putI (pc := 62) C pX8_335 rfl k dX8_cents_62 (x_eq e1 ?_)
  refine x_iconst (v := 0) (pc := 65) C dX8_cents_65 (by decide) ?_
  refine x_istore (M := [some _, some _, none, none, some _, none, some _, none, none, none, none]) (pc := 66) C dX8_cents_66 (by decide) rfl ?_
  exact x_sub (tX8_cents_68 C hr FU _ _ _ _ _ h) (xLe_s (xLe_s (xLe_n (xLe_n (xLe_s (xLe_n (xLe_s (xLe_n (xLe_n (xLe_n (xLe_n xLe_0)))))))))))
def DX8_cents_6 : Nat → Nat → Int32 → Int64 → Int32 → Sg → Option (Unit × Sg)
  | 0, _, _, _, _, _ => none
  | n + 1, l0, l1, l4, l6, σ =>
    if l1 ≤ l6 then
      DX8_cents_58 l0 l1 l4 σ
    else
      chk (ckO σ 6 l0) <|
      chk (ckV (gR σ l0 45)) <|
      chk (ckI σ (gR σ l0 45) l6) <|
      if (aI σ (gR σ l0 45) l6.toNatClampNeg) = (5 : Int32) then
        DX8_cents_49 (DX8_cents_6 n) l0 l1 l6 l4 (0 : Int64) σ
      else
        chk (ckO σ 6 l0) <|
        chk (ckV (gR σ l0 40)) <|
        chk (ckJ σ (gR σ l0 40) l6) <|
        chk (ckO σ 6 l0) <|
        chk (ckV (gR σ l0 41)) <|
        chk (ckJ σ (gR σ l0 41) l6) <|
        chk (ckO σ 6 l0) <|
        chk (ckM (gJ σ l0 47)) <|
        DX8_cents_49 (DX8_cents_6 n) l0 l1 l6 l4 ((aJ σ (gR σ l0 40) l6.toNatClampNeg) + ((aJ σ (gR σ l0 41) l6.toNatClampNeg) / (gJ σ l0 47))) σ
theorem tX8_cents_6 {r : Unit} {σ' : Sg} (C : Cx E p s m args meth c RX8 cX8_cents 11) (hr : meth.sig.returnType = none) : ∀ (n : Nat) (l0 : Nat) (l1 : Int32) (l4 : Int64) (l6 : Int32) (σ : Sg) (h : DX8_cents_6 n l0 l1 l4 l6 σ = some (r, σ')), Y E p l e (rmA 1 0 0) s m args below meth c none σ' 0 0 11 0 0 σ 6 [some (.ref (ad E l0)), some (.int l1), none, none, some (.long l4), none, some (.int l6), none, none, none, none] [] := by
  intro n
  induction n with
  | zero => intro l0 l1 l4 l6 σ h; cases h
  | succ n ih =>
    intro l0 l1 l4 l6 σ h
    unfold DX8_cents_6 at h
    refine x_iload (pc := 6) C dX8_cents_6 rfl ?_
    refine x_iload_n (pc := 8) C dX8_cents_8 rfl rfl ?_
    refine x_icmp_ge (pc := 9) (tgt := 58) C dX8_cents_9 (by decide) (fun q => ?_) (fun q => ?_)
    · rw [if_pos q] at h
      exact x_sub (tX8_cents_58 C hr h) (xLe_s (xLe_s (xLe_n (xLe_n (xLe_s (xLe_n (xLe_n (xLe_n (xLe_n (xLe_n (xLe_n xLe_0)))))))))))
    · rw [if_neg q] at h
      refine x_lload (pc := 12) C dX8_cents_12 rfl ?_
      refine x_aload_n (pc := 14) C dX8_cents_14 rfl rfl ?_
      obtain ⟨k, h⟩ := chk_s h
      have k2 := k
      obtain ⟨k, h⟩ := chk_s h
      refine x_getR (pc := 15) C fX8_81 rfl k2 k dX8_cents_15 ?_
      refine x_iload (pc := 18) C dX8_cents_18 rfl ?_
      obtain ⟨k, h⟩ := chk_s h
      refine x_iald (pc := 20) C k dX8_cents_20 ?_
      refine x_iconst (v := 5) (pc := 21) C dX8_cents_21 (by decide) ?_
      refine x_icmp_ne (pc := 22) (tgt := 29) C dX8_cents_22 (by decide) (fun q => ?_) (fun q => ?_)
      · rw [if_pos q] at h
        refine x_lconst (v := 0) (pc := 25) C dX8_cents_25 (by decide) ?_
        refine x_goto (tgt := 49) (pc := 26) C dX8_cents_26 (by decide) ?_
        exact x_sub (tX8_cents_49 C hr ih h) (xLe_s (xLe_s (xLe_n (xLe_n (xLe_n (xLe_n (xLe_s (xLe_n (xLe_n (xLe_n (xLe_n xLe_0)))))))))))
      · rw [if_neg q] at h
        refine x_aload_n (pc := 29) C dX8_cents_29 rfl rfl ?_
        obtain ⟨k, h⟩ := chk_s h
        have k2 := k
        obtain ⟨k, h⟩ := chk_s h
        refine x_getR (pc := 30) C fX8_65 rfl k2 k dX8_cents_30 ?_
        refine x_iload (pc := 33) C dX8_cents_33 rfl ?_
        obtain ⟨k, h⟩ := chk_s h
        refine x_lald (pc := 35) C k dX8_cents_35 ?_
        refine x_aload_n (pc := 36) C dX8_cents_36 rfl rfl ?_
        obtain ⟨k, h⟩ := chk_s h
        have k2 := k
        obtain ⟨k, h⟩ := chk_s h
        refine x_getR (pc := 37) C fX8_69 rfl k2 k dX8_cents_37 ?_
        refine x_iload (pc := 40) C dX8_cents_40 rfl ?_
        obtain ⟨k, h⟩ := chk_s h
        refine x_lald (pc := 42) C k dX8_cents_42 ?_
        refine x_aload_n (pc := 43) C dX8_cents_43 rfl rfl ?_
        obtain ⟨k, h⟩ := chk_s h
        refine x_getJ (pc := 44) C fX8_338 rfl k dX8_cents_44 ?_
        obtain ⟨k, h⟩ := chk_s h
        refine x_ldiv (pc := 47) C dX8_cents_47 (ckM_s k) ?_
        refine x_ladd (pc := 48) C dX8_cents_48 ?_
        exact x_sub (tX8_cents_49 C hr ih h) (xLe_s (xLe_s (xLe_n (xLe_n (xLe_n (xLe_n (xLe_s (xLe_n (xLe_n (xLe_n (xLe_n xLe_0)))))))))))
def DX8_cents (l0 : Nat) (l1 : Int32) (l2 : Int64) (σ : Sg) : Option (Unit × Sg) :=
  DX8_cents_6 FU l0 l1 l2 (0 : Int32) σ
theorem mX8_cents (E : Ev) (l : Launch) {l0 : Nat} {l1 : Int32} {l2 : Int64} {σ : Sg} {r : Unit} {σ' : Sg} (h : DX8_cents l0 l1 l2 σ = some (r, σ')) : Mt E l yX8_cents cX8_cents 11 none 1 0 0 [.ref (ad E l0), .int l1, .long l2] σ none σ' := by
  refine Mt.ofX (by decide) (Nat.le_of_ble_eq_true rfl) (L0 := [some (.ref (ad E l0)), some (.int l1), some (.long l2), none, none, none, none, none, none, none, none]) (xEntN_ok [.ref (ad E l0), .int l1, .long l2] 11) (fun p e s m args below meth c C hr hn => ?_)
  unfold DX8_cents at h
  refine x_lload_n (pc := 0) C dX8_cents_0 rfl rfl ?_
  refine x_lstore (M := [some _, some _, some _, none, some _, none, none, none, none, none, none]) (pc := 1) C dX8_cents_1 (by decide) rfl ?_
  refine x_iconst (v := 0) (pc := 3) C dX8_cents_3 (by decide) ?_
  refine x_istore (M := [some _, some _, some _, none, some _, none, some _, none, none, none, none]) (pc := 4) C dX8_cents_4 (by decide) rfl ?_
  exact x_sub (tX8_cents_6 C hr FU _ _ _ _ _ h) (xLe_s (xLe_s (xLe_n (xLe_n (xLe_s (xLe_n (xLe_s (xLe_n (xLe_n (xLe_n (xLe_n xLe_0)))))))))))
def DX8_prorates_287 (K32 : Nat → Int32 → Int32 → Int32 → Int32 → Int32 → Int64 → Int32 → Sg → Option (Unit × Sg)) (l0 : Nat) (l1 : Int32) (l2 : Int32) (l3 : Int32) (l4 : Int32) (l5 : Int32) (l6 : Int64) (l8 : Int32) (σ : Sg) : Option (Unit × Sg) :=
  K32 l0 l1 l2 l3 l4 l5 l6 (l8 + (1 : Int32)) σ
theorem tX8_prorates_287 {r : Unit} {σ' : Sg} (C : Cx E p s m args meth c RX8 cX8_prorates 11) (hr : meth.sig.returnType = none) {K32 : Nat → Int32 → Int32 → Int32 → Int32 → Int32 → Int64 → Int32 → Sg → Option (Unit × Sg)} (hK32 : ∀ (l0 : Nat) (l1 : Int32) (l2 : Int32) (l3 : Int32) (l4 : Int32) (l5 : Int32) (l6 : Int64) (l8 : Int32) (σ : Sg), K32 l0 l1 l2 l3 l4 l5 l6 l8 σ = some (r, σ') → Y E p l e (rmA 5 0 0) s m args below meth c none σ' 0 0 11 0 0 σ 32 [some (.ref (ad E l0)), some (.int l1), some (.int l2), some (.int l3), some (.int l4), some (.int l5), some (.long l6), none, some (.int l8), none, none] []) {l0 : Nat} {l1 : Int32} {l2 : Int32} {l3 : Int32} {l4 : Int32} {l5 : Int32} {l6 : Int64} {l8 : Int32} {σ : Sg} (h : DX8_prorates_287 K32 l0 l1 l2 l3 l4 l5 l6 l8 σ = some (r, σ')) : Y E p l e (rmA 5 0 0) s m args below meth c none σ' 0 0 11 0 0 σ 287 [some (.ref (ad E l0)), some (.int l1), some (.int l2), some (.int l3), some (.int l4), some (.int l5), some (.long l6), none, some (.int l8), none, none] [] := by
  unfold DX8_prorates_287 at h
  refine x_iinc (v := 1) (M := [some _, some _, some _, some _, some _, some _, some _, none, some _, none, none]) (pc := 287) C dX8_prorates_287 rfl (by decide) (by decide) rfl ?_
  refine x_goto (tgt := 32) (pc := 290) C dX8_prorates_290 (by decide) ?_
  exact x_sub (hK32 _ _ _ _ _ _ _ _ _ h) (xLe_s (xLe_s (xLe_s (xLe_s (xLe_s (xLe_s (xLe_s (xLe_n (xLe_s (xLe_n (xLe_n xLe_0)))))))))))
def DX8_prorates_234 (K32 : Nat → Int32 → Int32 → Int32 → Int32 → Int32 → Int64 → Int32 → Sg → Option (Unit × Sg)) (l0 : Nat) (l1 : Int32) (l2 : Int32) (l3 : Int32) (l4 : Int32) (l5 : Int32) (l6 : Int64) (l8 : Int32) (l10 : Int32) (s0 : Nat) (s1 : Int32) (s2 : Int32) (σ : Sg) : Option (Unit × Sg) :=
  chk (ckZ σ s0 s1) <|
  chk (ck01 s2) <|
  wlet (wI σ s0 s1.toNatClampNeg s2) fun σ1 =>
  if l10 = 0 then
    DX8_prorates_287 K32 l0 l1 l2 l3 l4 l5 l6 l8 σ1
  else
    chk (ckO σ1 6 l0) <|
    chk (ckV (gR σ1 l0 40)) <|
    chk (ckO σ1 6 l0) <|
    chk (ckV (gR σ1 l0 20)) <|
    chk (ckI σ1 (gR σ1 l0 20) (((128 : Int32) + ((8 : Int32) * l1)) + l8)) <|
    chk (ckJ σ1 (gR σ1 l0 40) l8) <|
    wlet (wJ σ1 (gR σ1 l0 40) l8.toNatClampNeg ((aI σ1 (gR σ1 l0 20) (((128 : Int32) + ((8 : Int32) * l1)) + l8).toNatClampNeg).toInt64)) fun σ2 =>
    chk (ckO σ2 6 l0) <|
    chk (ckV (gR σ2 l0 45)) <|
    chk (ckI σ2 (gR σ2 l0 45) l8) <|
    wlet (wI σ2 (gR σ2 l0 45) l8.toNatClampNeg (5 : Int32)) fun σ3 =>
    chk (ckO σ3 6 l0) <|
    chk (ckV (gR σ3 l0 40)) <|
    chk (ckJ σ3 (gR σ3 l0 40) l8) <|
    DX8_prorates_287 K32 l0 l1 l2 l3 l4 l5 (l6 - (aJ σ3 (gR σ3 l0 40) l8.toNatClampNeg)) l8 σ3
theorem tX8_prorates_234 {r : Unit} {σ' : Sg} (C : Cx E p s m args meth c RX8 cX8_prorates 11) (hr : meth.sig.returnType = none) {K32 : Nat → Int32 → Int32 → Int32 → Int32 → Int32 → Int64 → Int32 → Sg → Option (Unit × Sg)} (hK32 : ∀ (l0 : Nat) (l1 : Int32) (l2 : Int32) (l3 : Int32) (l4 : Int32) (l5 : Int32) (l6 : Int64) (l8 : Int32) (σ : Sg), K32 l0 l1 l2 l3 l4 l5 l6 l8 σ = some (r, σ') → Y E p l e (rmA 5 0 0) s m args below meth c none σ' 0 0 11 0 0 σ 32 [some (.ref (ad E l0)), some (.int l1), some (.int l2), some (.int l3), some (.int l4), some (.int l5), some (.long l6), none, some (.int l8), none, none] []) {l0 : Nat} {l1 : Int32} {l2 : Int32} {l3 : Int32} {l4 : Int32} {l5 : Int32} {l6 : Int64} {l8 : Int32} {l10 : Int32} {s0 : Nat} {s1 : Int32} {s2 : Int32} {σ : Sg} (h : DX8_prorates_234 K32 l0 l1 l2 l3 l4 l5 l6 l8 l10 s0 s1 s2 σ = some (r, σ')) : Y E p l e (rmA 5 0 0) s m args below meth c none σ' 0 0 11 0 0 σ 234 [some (.ref (ad E l0)), some (.int l1), some (.int l2), some (.int l3), some (.int l4), some (.int l5), some (.long l6), none, some (.int l8), none, some (.int l10)] [.int s2, .int s1, .ref (ad E s0)] := by
  unfold DX8_prorates_234 at h
  obtain ⟨k, h⟩ := chk_s h
  have k2 := k
  obtain ⟨k, h⟩ := chk_s h
  obtain ⟨σ1, e1, h⟩ := wlet_s h
  refine x_zast (pc := 234) C k2 k dX8_prorates_234 (x_eq e1 ?_)
  refine x_iload (pc := 235) C dX8_prorates_235 rfl ?_
  refine x_if_ne (pc := 237) (tgt := 243) C dX8_prorates_237 (by decide) (fun q => ?_) (fun q => ?_)
  · rw [if_pos q] at h
    refine x_goto (tgt := 287) (pc := 240) C dX8_prorates_240 (by decide) ?_
    exact x_sub (tX8_prorates_287 C hr hK32 h) (xLe_s (xLe_s (xLe_s (xLe_s (xLe_s (xLe_s (xLe_s (xLe_n (xLe_s (xLe_n (xLe_n xLe_0)))))))))))
  · rw [if_neg q] at h
    refine x_aload_n (pc := 243) C dX8_prorates_243 rfl rfl ?_
    obtain ⟨k, h⟩ := chk_s h
    have k2 := k
    obtain ⟨k, h⟩ := chk_s h
    refine x_getR (pc := 244) C fX8_65 rfl k2 k dX8_prorates_244 ?_
    refine x_iload (pc := 247) C dX8_prorates_247 rfl ?_
    refine x_aload_n (pc := 249) C dX8_prorates_249 rfl rfl ?_
    obtain ⟨k, h⟩ := chk_s h
    have k2 := k
    obtain ⟨k, h⟩ := chk_s h
    refine x_getR (pc := 250) C fX8_37 rfl k2 k dX8_prorates_250 ?_
    refine x_sipush (v := 128) (pc := 253) C dX8_prorates_253 (by decide) ?_
    refine x_bipush (v := 8) (pc := 256) C dX8_prorates_256 (by decide) ?_
    refine x_iload_n (pc := 258) C dX8_prorates_258 rfl rfl ?_
    refine x_imul (pc := 259) C dX8_prorates_259 ?_
    refine x_iadd (pc := 260) C dX8_prorates_260 ?_
    refine x_iload (pc := 261) C dX8_prorates_261 rfl ?_
    refine x_iadd (pc := 263) C dX8_prorates_263 ?_
    obtain ⟨k, h⟩ := chk_s h
    refine x_iald (pc := 264) C k dX8_prorates_264 ?_
    refine x_i2l (pc := 265) C dX8_prorates_265 ?_
    obtain ⟨k, h⟩ := chk_s h
    obtain ⟨σ2, e1, h⟩ := wlet_s h
    refine x_last (pc := 266) C k dX8_prorates_266 (x_eq e1 ?_)
    refine x_aload_n (pc := 267) C dX8_prorates_267 rfl rfl ?_
    obtain ⟨k, h⟩ := chk_s h
    have k2 := k
    obtain ⟨k, h⟩ := chk_s h
    refine x_getR (pc := 268) C fX8_81 rfl k2 k dX8_prorates_268 ?_
    refine x_iload (pc := 271) C dX8_prorates_271 rfl ?_
    refine x_iconst (v := 5) (pc := 273) C dX8_prorates_273 (by decide) ?_
    obtain ⟨k, h⟩ := chk_s h
    obtain ⟨σ3, e1, h⟩ := wlet_s h
    refine x_iast (pc := 274) C k dX8_prorates_274 (x_eq e1 ?_)
    refine x_lload (pc := 275) C dX8_prorates_275 rfl ?_
    refine x_aload_n (pc := 277) C dX8_prorates_277 rfl rfl ?_
    obtain ⟨k, h⟩ := chk_s h
    have k2 := k
    obtain ⟨k, h⟩ := chk_s h
    refine x_getR (pc := 278) C fX8_65 rfl k2 k dX8_prorates_278 ?_
    refine x_iload (pc := 281) C dX8_prorates_281 rfl ?_
    obtain ⟨k, h⟩ := chk_s h
    refine x_lald (pc := 283) C k dX8_prorates_283 ?_
    refine x_lsub (pc := 284) C dX8_prorates_284 ?_
    refine x_lstore (M := [some _, some _, some _, some _, some _, some _, some _, none, some _, none, some _]) (pc := 285) C dX8_prorates_285 (by decide) rfl ?_
    exact x_sub (tX8_prorates_287 C hr hK32 h) (xLe_s (xLe_s (xLe_s (xLe_s (xLe_s (xLe_s (xLe_s (xLe_n (xLe_s (xLe_n (xLe_n xLe_0)))))))))))
def DX8_prorates_178 (K32 : Nat → Int32 → Int32 → Int32 → Int32 → Int32 → Int64 → Int32 → Sg → Option (Unit × Sg)) (l0 : Nat) (l1 : Int32) (l2 : Int32) (l3 : Int32) (l4 : Int32) (l5 : Int32) (l6 : Int64) (l8 : Int32) (l10 : Int32) (s0 : Nat) (s1 : Int32) (s2 : Int64) (σ : Sg) : Option (Unit × Sg) :=
  chk (ckJ σ s0 s1) <|
  wlet (wJ σ s0 s1.toNatClampNeg s2) fun σ1 =>
  chk (ckO σ1 6 l0) <|
  chk (ckV (gR σ1 l0 42)) <|
  chk (ckO σ1 6 l0) <|
  bnd (DX8_factorOf l0 l1 l8 l2 σ1) fun v2 σ3 =>
  chk (ckJ σ3 (gR σ1 l0 42) l8) <|
  wlet (wJ σ3 (gR σ1 l0 42) l8.toNatClampNeg v2) fun σ4 =>
  chk (ckO σ4 6 l0) <|
  chk (ckV (gR σ4 l0 40)) <|
  chk (ckJ σ4 (gR σ4 l0 40) l8) <|
  wlet (wJ σ4 (gR σ4 l0 40) l8.toNatClampNeg (0 : Int64)) fun σ5 =>
  chk (ckO σ5 6 l0) <|
  chk (ckV (gR σ5 l0 41)) <|
  chk (ckJ σ5 (gR σ5 l0 41) l8) <|
  wlet (wJ σ5 (gR σ5 l0 41) l8.toNatClampNeg (0 : Int64)) fun σ6 =>
  chk (ckO σ6 6 l0) <|
  chk (ckV (gR σ6 l0 45)) <|
  chk (ckI σ6 (gR σ6 l0 45) l8) <|
  wlet (wI σ6 (gR σ6 l0 45) l8.toNatClampNeg (0 : Int32)) fun σ7 =>
  chk (ckO σ7 6 l0) <|
  chk (ckV (gR σ7 l0 46)) <|
  if l10 = 0 then
    DX8_prorates_234 K32 l0 l1 l2 l3 l4 l5 l6 l8 l10 (gR σ7 l0 46) l8 (1 : Int32) σ7
  else
    DX8_prorates_234 K32 l0 l1 l2 l3 l4 l5 l6 l8 l10 (gR σ7 l0 46) l8 (0 : Int32) σ7
theorem tX8_prorates_178 {r : Unit} {σ' : Sg} (C : Cx E p s m args meth c RX8 cX8_prorates 11) (hr : meth.sig.returnType = none) {K32 : Nat → Int32 → Int32 → Int32 → Int32 → Int32 → Int64 → Int32 → Sg → Option (Unit × Sg)} (hK32 : ∀ (l0 : Nat) (l1 : Int32) (l2 : Int32) (l3 : Int32) (l4 : Int32) (l5 : Int32) (l6 : Int64) (l8 : Int32) (σ : Sg), K32 l0 l1 l2 l3 l4 l5 l6 l8 σ = some (r, σ') → Y E p l e (rmA 5 0 0) s m args below meth c none σ' 0 0 11 0 0 σ 32 [some (.ref (ad E l0)), some (.int l1), some (.int l2), some (.int l3), some (.int l4), some (.int l5), some (.long l6), none, some (.int l8), none, none] []) {l0 : Nat} {l1 : Int32} {l2 : Int32} {l3 : Int32} {l4 : Int32} {l5 : Int32} {l6 : Int64} {l8 : Int32} {l10 : Int32} {s0 : Nat} {s1 : Int32} {s2 : Int64} {σ : Sg} (h : DX8_prorates_178 K32 l0 l1 l2 l3 l4 l5 l6 l8 l10 s0 s1 s2 σ = some (r, σ')) : Y E p l e (rmA 5 0 0) s m args below meth c none σ' 0 0 11 0 0 σ 178 [some (.ref (ad E l0)), some (.int l1), some (.int l2), some (.int l3), some (.int l4), some (.int l5), some (.long l6), none, some (.int l8), none, some (.int l10)] [.long s2, .int s1, .ref (ad E s0)] := by
  unfold DX8_prorates_178 at h
  obtain ⟨k, h⟩ := chk_s h
  obtain ⟨σ1, e1, h⟩ := wlet_s h
  refine x_last (pc := 178) C k dX8_prorates_178 (x_eq e1 ?_)
  refine x_aload_n (pc := 179) C dX8_prorates_179 rfl rfl ?_
  obtain ⟨k, h⟩ := chk_s h
  have k2 := k
  obtain ⟨k, h⟩ := chk_s h
  refine x_getR (pc := 180) C fX8_72 rfl k2 k dX8_prorates_180 ?_
  refine x_iload (pc := 183) C dX8_prorates_183 rfl ?_
  refine x_aload_n (pc := 185) C dX8_prorates_185 rfl rfl ?_
  refine x_iload_n (pc := 186) C dX8_prorates_186 rfl rfl ?_
  refine x_iload (pc := 187) C dX8_prorates_187 rfl ?_
  refine x_iload_n (pc := 189) C dX8_prorates_189 rfl rfl ?_
  obtain ⟨k, h⟩ := chk_s h
  have k2 := k
  obtain ⟨v2, σ3, k, h⟩ := bnd_s h
  refine x_callV1 (pc := 190) C (mX8_factorOf E l k) cl6 k2 cX8_350 nX8_factorOf sX8_factorOf rfl rfl (Nat.le_of_ble_eq_true rfl) ⟨Nat.le_of_ble_eq_true rfl, Nat.le_of_ble_eq_true rfl, Nat.le_of_ble_eq_true rfl, Nat.le_of_ble_eq_true rfl⟩ dX8_prorates_190 ?_
  obtain ⟨k, h⟩ := chk_s h
  obtain ⟨σ4, e1, h⟩ := wlet_s h
  refine x_last (pc := 193) C k dX8_prorates_193 (x_eq e1 ?_)
  refine x_aload_n (pc := 194) C dX8_prorates_194 rfl rfl ?_
  obtain ⟨k, h⟩ := chk_s h
  have k2 := k
  obtain ⟨k, h⟩ := chk_s h
  refine x_getR (pc := 195) C fX8_65 rfl k2 k dX8_prorates_195 ?_
  refine x_iload (pc := 198) C dX8_prorates_198 rfl ?_
  refine x_lconst (v := 0) (pc := 200) C dX8_prorates_200 (by decide) ?_
  obtain ⟨k, h⟩ := chk_s h
  obtain ⟨σ5, e1, h⟩ := wlet_s h
  refine x_last (pc := 201) C k dX8_prorates_201 (x_eq e1 ?_)
  refine x_aload_n (pc := 202) C dX8_prorates_202 rfl rfl ?_
  obtain ⟨k, h⟩ := chk_s h
  have k2 := k
  obtain ⟨k, h⟩ := chk_s h
  refine x_getR (pc := 203) C fX8_69 rfl k2 k dX8_prorates_203 ?_
  refine x_iload (pc := 206) C dX8_prorates_206 rfl ?_
  refine x_lconst (v := 0) (pc := 208) C dX8_prorates_208 (by decide) ?_
  obtain ⟨k, h⟩ := chk_s h
  obtain ⟨σ6, e1, h⟩ := wlet_s h
  refine x_last (pc := 209) C k dX8_prorates_209 (x_eq e1 ?_)
  refine x_aload_n (pc := 210) C dX8_prorates_210 rfl rfl ?_
  obtain ⟨k, h⟩ := chk_s h
  have k2 := k
  obtain ⟨k, h⟩ := chk_s h
  refine x_getR (pc := 211) C fX8_81 rfl k2 k dX8_prorates_211 ?_
  refine x_iload (pc := 214) C dX8_prorates_214 rfl ?_
  refine x_iconst (v := 0) (pc := 216) C dX8_prorates_216 (by decide) ?_
  obtain ⟨k, h⟩ := chk_s h
  obtain ⟨σ7, e1, h⟩ := wlet_s h
  refine x_iast (pc := 217) C k dX8_prorates_217 (x_eq e1 ?_)
  refine x_aload_n (pc := 218) C dX8_prorates_218 rfl rfl ?_
  obtain ⟨k, h⟩ := chk_s h
  have k2 := k
  obtain ⟨k, h⟩ := chk_s h
  refine x_getR (pc := 219) C fX8_84 rfl k2 k dX8_prorates_219 ?_
  refine x_iload (pc := 222) C dX8_prorates_222 rfl ?_
  refine x_iload (pc := 224) C dX8_prorates_224 rfl ?_
  refine x_if_ne (pc := 226) (tgt := 233) C dX8_prorates_226 (by decide) (fun q => ?_) (fun q => ?_)
  · rw [if_pos q] at h
    refine x_iconst (v := 1) (pc := 229) C dX8_prorates_229 (by decide) ?_
    refine x_goto (tgt := 234) (pc := 230) C dX8_prorates_230 (by decide) ?_
    exact x_sub (tX8_prorates_234 C hr hK32 h) (xLe_s (xLe_s (xLe_s (xLe_s (xLe_s (xLe_s (xLe_s (xLe_n (xLe_s (xLe_n (xLe_s xLe_0)))))))))))
  · rw [if_neg q] at h
    refine x_iconst (v := 0) (pc := 233) C dX8_prorates_233 (by decide) ?_
    exact x_sub (tX8_prorates_234 C hr hK32 h) (xLe_s (xLe_s (xLe_s (xLe_s (xLe_s (xLe_s (xLe_s (xLe_n (xLe_s (xLe_n (xLe_s xLe_0)))))))))))
def DX8_prorates_110 (K32 : Nat → Int32 → Int32 → Int32 → Int32 → Int32 → Int64 → Int32 → Sg → Option (Unit × Sg)) (l0 : Nat) (l1 : Int32) (l2 : Int32) (l3 : Int32) (l4 : Int32) (l5 : Int32) (l6 : Int64) (l8 : Int32) (l9 : Int32) (l10 : Int32) (s0 : Nat) (s1 : Int32) (s2 : Int32) (σ : Sg) : Option (Unit × Sg) :=
  chk (ckI σ s0 s1) <|
  wlet (wI σ s0 s1.toNatClampNeg s2) fun σ1 =>
  chk (ckO σ1 6 l0) <|
  chk (ckV (gR σ1 l0 43)) <|
  if l9 = (-2 : Int32) then
    DX8_prorates_178 K32 l0 l1 l2 l3 l4 l5 l6 l8 l10 (gR σ1 l0 43) l8 (0 : Int64) σ1
  else
    chk (ckO σ1 6 l0) <|
    chk (ckV (gR σ1 l0 44)) <|
    chk (ckI σ1 (gR σ1 l0 44) l8) <|
    if (aI σ1 (gR σ1 l0 44) l8.toNatClampNeg) = (2 : Int32) then
      chk (ckO σ1 6 l0) <|
      bnd (DX8_fare l0 l1 σ1) fun v2 σ3 =>
      chk (ckO σ3 6 l0) <|
      chk (ckV (gR σ3 l0 14)) <|
      chk (ckI σ3 (gR σ3 l0 14) (((6 : Int32) * l9) + (4 : Int32))) <|
      chk (ckM (100 : Int64)) <|
      DX8_prorates_178 K32 l0 l1 l2 l3 l4 l5 l6 l8 l10 (gR σ1 l0 43) l8 ((v2 * ((aI σ3 (gR σ3 l0 14) (((6 : Int32) * l9) + (4 : Int32)).toNatClampNeg).toInt64)) / (100 : Int64)) σ3
    else
      chk (ckO σ1 6 l0) <|
      chk (ckV (gR σ1 l0 14)) <|
      chk (ckI σ1 (gR σ1 l0 14) (((6 : Int32) * l9) + (4 : Int32))) <|
      DX8_prorates_178 K32 l0 l1 l2 l3 l4 l5 l6 l8 l10 (gR σ1 l0 43) l8 ((aI σ1 (gR σ1 l0 14) (((6 : Int32) * l9) + (4 : Int32)).toNatClampNeg).toInt64) σ1
theorem tX8_prorates_110 {r : Unit} {σ' : Sg} (C : Cx E p s m args meth c RX8 cX8_prorates 11) (hr : meth.sig.returnType = none) {K32 : Nat → Int32 → Int32 → Int32 → Int32 → Int32 → Int64 → Int32 → Sg → Option (Unit × Sg)} (hK32 : ∀ (l0 : Nat) (l1 : Int32) (l2 : Int32) (l3 : Int32) (l4 : Int32) (l5 : Int32) (l6 : Int64) (l8 : Int32) (σ : Sg), K32 l0 l1 l2 l3 l4 l5 l6 l8 σ = some (r, σ') → Y E p l e (rmA 5 0 0) s m args below meth c none σ' 0 0 11 0 0 σ 32 [some (.ref (ad E l0)), some (.int l1), some (.int l2), some (.int l3), some (.int l4), some (.int l5), some (.long l6), none, some (.int l8), none, none] []) {l0 : Nat} {l1 : Int32} {l2 : Int32} {l3 : Int32} {l4 : Int32} {l5 : Int32} {l6 : Int64} {l8 : Int32} {l9 : Int32} {l10 : Int32} {s0 : Nat} {s1 : Int32} {s2 : Int32} {σ : Sg} (h : DX8_prorates_110 K32 l0 l1 l2 l3 l4 l5 l6 l8 l9 l10 s0 s1 s2 σ = some (r, σ')) : Y E p l e (rmA 5 0 0) s m args below meth c none σ' 0 0 11 0 0 σ 110 [some (.ref (ad E l0)), some (.int l1), some (.int l2), some (.int l3), some (.int l4), some (.int l5), some (.long l6), none, some (.int l8), some (.int l9), some (.int l10)] [.int s2, .int s1, .ref (ad E s0)] := by
  unfold DX8_prorates_110 at h
  obtain ⟨k, h⟩ := chk_s h
  obtain ⟨σ1, e1, h⟩ := wlet_s h
  refine x_iast (pc := 110) C k dX8_prorates_110 (x_eq e1 ?_)
  refine x_aload_n (pc := 111) C dX8_prorates_111 rfl rfl ?_
  obtain ⟨k, h⟩ := chk_s h
  have k2 := k
  obtain ⟨k, h⟩ := chk_s h
  refine x_getR (pc := 112) C fX8_75 rfl k2 k dX8_prorates_112 ?_
  refine x_iload (pc := 115) C dX8_prorates_115 rfl ?_
  refine x_iload (pc := 117) C dX8_prorates_117 rfl ?_
  refine x_bipush (v := -2) (pc := 119) C dX8_prorates_119 (by decide) ?_
  refine x_icmp_ne (pc := 121) (tgt := 128) C dX8_prorates_121 (by decide) (fun q => ?_) (fun q => ?_)
  · rw [if_pos q] at h
    refine x_lconst (v := 0) (pc := 124) C dX8_prorates_124 (by decide) ?_
    refine x_goto (tgt := 178) (pc := 125) C dX8_prorates_125 (by decide) ?_
    exact x_sub (tX8_prorates_178 C hr hK32 h) (xLe_s (xLe_s (xLe_s (xLe_s (xLe_s (xLe_s (xLe_s (xLe_n (xLe_s (xLe_n (xLe_s xLe_0)))))))))))
  · rw [if_neg q] at h
    refine x_aload_n (pc := 128) C dX8_prorates_128 rfl rfl ?_
    obtain ⟨k, h⟩ := chk_s h
    have k2 := k
    obtain ⟨k, h⟩ := chk_s h
    refine x_getR (pc := 129) C fX8_78 rfl k2 k dX8_prorates_129 ?_
    refine x_iload (pc := 132) C dX8_prorates_132 rfl ?_
    obtain ⟨k, h⟩ := chk_s h
    refine x_iald (pc := 134) C k dX8_prorates_134 ?_
    refine x_iconst (v := 2) (pc := 135) C dX8_prorates_135 (by decide) ?_
    refine x_icmp_ne (pc := 136) (tgt := 165) C dX8_prorates_136 (by decide) (fun q => ?_) (fun q => ?_)
    · rw [if_pos q] at h
      refine x_aload_n (pc := 139) C dX8_prorates_139 rfl rfl ?_
      refine x_iload_n (pc := 140) C dX8_prorates_140 rfl rfl ?_
      obtain ⟨k, h⟩ := chk_s h
      have k2 := k
      obtain ⟨v2, σ3, k, h⟩ := bnd_s h
      refine x_callV1 (pc := 141) C (mX8_fare E l k) cl6 k2 cX8_328 nX8_fare sX8_fare rfl rfl (Nat.le_of_ble_eq_true rfl) ⟨Nat.le_of_ble_eq_true rfl, Nat.le_of_ble_eq_true rfl, Nat.le_of_ble_eq_true rfl, Nat.le_of_ble_eq_true rfl⟩ dX8_prorates_141 ?_
      refine x_aload_n (pc := 144) C dX8_prorates_144 rfl rfl ?_
      obtain ⟨k, h⟩ := chk_s h
      have k2 := k
      obtain ⟨k, h⟩ := chk_s h
      refine x_getR (pc := 145) C fX8_19 rfl k2 k dX8_prorates_145 ?_
      refine x_bipush (v := 6) (pc := 148) C dX8_prorates_148 (by decide) ?_
      refine x_iload (pc := 150) C dX8_prorates_150 rfl ?_
      refine x_imul (pc := 152) C dX8_prorates_152 ?_
      refine x_iconst (v := 4) (pc := 153) C dX8_prorates_153 (by decide) ?_
      refine x_iadd (pc := 154) C dX8_prorates_154 ?_
      obtain ⟨k, h⟩ := chk_s h
      refine x_iald (pc := 155) C k dX8_prorates_155 ?_
      refine x_i2l (pc := 156) C dX8_prorates_156 ?_
      refine x_lmul (pc := 157) C dX8_prorates_157 ?_
      refine x_ldc2_w (pc := 158) C kX8_348 dX8_prorates_158 ?_
      obtain ⟨k, h⟩ := chk_s h
      refine x_ldiv (pc := 161) C dX8_prorates_161 (ckM_s k) ?_
      refine x_goto (tgt := 178) (pc := 162) C dX8_prorates_162 (by decide) ?_
      exact x_sub (tX8_prorates_178 C hr hK32 h) (xLe_s (xLe_s (xLe_s (xLe_s (xLe_s (xLe_s (xLe_s (xLe_n (xLe_s (xLe_n (xLe_s xLe_0)))))))))))
    · rw [if_neg q] at h
      refine x_aload_n (pc := 165) C dX8_prorates_165 rfl rfl ?_
      obtain ⟨k, h⟩ := chk_s h
      have k2 := k
      obtain ⟨k, h⟩ := chk_s h
      refine x_getR (pc := 166) C fX8_19 rfl k2 k dX8_prorates_166 ?_
      refine x_bipush (v := 6) (pc := 169) C dX8_prorates_169 (by decide) ?_
      refine x_iload (pc := 171) C dX8_prorates_171 rfl ?_
      refine x_imul (pc := 173) C dX8_prorates_173 ?_
      refine x_iconst (v := 4) (pc := 174) C dX8_prorates_174 (by decide) ?_
      refine x_iadd (pc := 175) C dX8_prorates_175 ?_
      obtain ⟨k, h⟩ := chk_s h
      refine x_iald (pc := 176) C k dX8_prorates_176 ?_
      refine x_i2l (pc := 177) C dX8_prorates_177 ?_
      exact x_sub (tX8_prorates_178 C hr hK32 h) (xLe_s (xLe_s (xLe_s (xLe_s (xLe_s (xLe_s (xLe_s (xLe_n (xLe_s (xLe_n (xLe_s xLe_0)))))))))))
def DX8_prorates_79 (K32 : Nat → Int32 → Int32 → Int32 → Int32 → Int32 → Int64 → Int32 → Sg → Option (Unit × Sg)) (l0 : Nat) (l1 : Int32) (l2 : Int32) (l3 : Int32) (l4 : Int32) (l5 : Int32) (l6 : Int64) (l8 : Int32) (l9 : Int32) (s0 : Int32) (σ : Sg) : Option (Unit × Sg) :=
  chk (ckO σ 6 l0) <|
  chk (ckV (gR σ l0 44)) <|
  if l9 = (-2 : Int32) then
    DX8_prorates_110 K32 l0 l1 l2 l3 l4 l5 l6 l8 l9 s0 (gR σ l0 44) l8 (0 : Int32) σ
  else
    chk (ckO σ 6 l0) <|
    chk (ckV (gR σ l0 14)) <|
    chk (ckI σ (gR σ l0 14) (((6 : Int32) * l9) + (3 : Int32))) <|
    DX8_prorates_110 K32 l0 l1 l2 l3 l4 l5 l6 l8 l9 s0 (gR σ l0 44) l8 (aI σ (gR σ l0 14) (((6 : Int32) * l9) + (3 : Int32)).toNatClampNeg) σ
theorem tX8_prorates_79 {r : Unit} {σ' : Sg} (C : Cx E p s m args meth c RX8 cX8_prorates 11) (hr : meth.sig.returnType = none) {K32 : Nat → Int32 → Int32 → Int32 → Int32 → Int32 → Int64 → Int32 → Sg → Option (Unit × Sg)} (hK32 : ∀ (l0 : Nat) (l1 : Int32) (l2 : Int32) (l3 : Int32) (l4 : Int32) (l5 : Int32) (l6 : Int64) (l8 : Int32) (σ : Sg), K32 l0 l1 l2 l3 l4 l5 l6 l8 σ = some (r, σ') → Y E p l e (rmA 5 0 0) s m args below meth c none σ' 0 0 11 0 0 σ 32 [some (.ref (ad E l0)), some (.int l1), some (.int l2), some (.int l3), some (.int l4), some (.int l5), some (.long l6), none, some (.int l8), none, none] []) {l0 : Nat} {l1 : Int32} {l2 : Int32} {l3 : Int32} {l4 : Int32} {l5 : Int32} {l6 : Int64} {l8 : Int32} {l9 : Int32} {s0 : Int32} {σ : Sg} (h : DX8_prorates_79 K32 l0 l1 l2 l3 l4 l5 l6 l8 l9 s0 σ = some (r, σ')) : Y E p l e (rmA 5 0 0) s m args below meth c none σ' 0 0 11 0 0 σ 79 [some (.ref (ad E l0)), some (.int l1), some (.int l2), some (.int l3), some (.int l4), some (.int l5), some (.long l6), none, some (.int l8), some (.int l9), none] [.int s0] := by
  unfold DX8_prorates_79 at h
  refine x_istore (M := [some _, some _, some _, some _, some _, some _, some _, none, some _, some _, some _]) (pc := 79) C dX8_prorates_79 (by decide) rfl ?_
  refine x_aload_n (pc := 81) C dX8_prorates_81 rfl rfl ?_
  obtain ⟨k, h⟩ := chk_s h
  have k2 := k
  obtain ⟨k, h⟩ := chk_s h
  refine x_getR (pc := 82) C fX8_78 rfl k2 k dX8_prorates_82 ?_
  refine x_iload (pc := 85) C dX8_prorates_85 rfl ?_
  refine x_iload (pc := 87) C dX8_prorates_87 rfl ?_
  refine x_bipush (v := -2) (pc := 89) C dX8_prorates_89 (by decide) ?_
  refine x_icmp_ne (pc := 91) (tgt := 98) C dX8_prorates_91 (by decide) (fun q => ?_) (fun q => ?_)
  · rw [if_pos q] at h
    refine x_iconst (v := 0) (pc := 94) C dX8_prorates_94 (by decide) ?_
    refine x_goto (tgt := 110) (pc := 95) C dX8_prorates_95 (by decide) ?_
    exact x_sub (tX8_prorates_110 C hr hK32 h) (xLe_s (xLe_s (xLe_s (xLe_s (xLe_s (xLe_s (xLe_s (xLe_n (xLe_s (xLe_s (xLe_s xLe_0)))))))))))
  · rw [if_neg q] at h
    refine x_aload_n (pc := 98) C dX8_prorates_98 rfl rfl ?_
    obtain ⟨k, h⟩ := chk_s h
    have k2 := k
    obtain ⟨k, h⟩ := chk_s h
    refine x_getR (pc := 99) C fX8_19 rfl k2 k dX8_prorates_99 ?_
    refine x_bipush (v := 6) (pc := 102) C dX8_prorates_102 (by decide) ?_
    refine x_iload (pc := 104) C dX8_prorates_104 rfl ?_
    refine x_imul (pc := 106) C dX8_prorates_106 ?_
    refine x_iconst (v := 3) (pc := 107) C dX8_prorates_107 (by decide) ?_
    refine x_iadd (pc := 108) C dX8_prorates_108 ?_
    obtain ⟨k, h⟩ := chk_s h
    refine x_iald (pc := 109) C k dX8_prorates_109 ?_
    exact x_sub (tX8_prorates_110 C hr hK32 h) (xLe_s (xLe_s (xLe_s (xLe_s (xLe_s (xLe_s (xLe_s (xLe_n (xLe_s (xLe_s (xLe_s xLe_0)))))))))))
def DX8_prorates_78 (K32 : Nat → Int32 → Int32 → Int32 → Int32 → Int32 → Int64 → Int32 → Sg → Option (Unit × Sg)) (l0 : Nat) (l1 : Int32) (l2 : Int32) (l3 : Int32) (l4 : Int32) (l5 : Int32) (l6 : Int64) (l8 : Int32) (l9 : Int32) (σ : Sg) : Option (Unit × Sg) :=
  DX8_prorates_79 K32 l0 l1 l2 l3 l4 l5 l6 l8 l9 (0 : Int32) σ
theorem tX8_prorates_78 {r : Unit} {σ' : Sg} (C : Cx E p s m args meth c RX8 cX8_prorates 11) (hr : meth.sig.returnType = none) {K32 : Nat → Int32 → Int32 → Int32 → Int32 → Int32 → Int64 → Int32 → Sg → Option (Unit × Sg)} (hK32 : ∀ (l0 : Nat) (l1 : Int32) (l2 : Int32) (l3 : Int32) (l4 : Int32) (l5 : Int32) (l6 : Int64) (l8 : Int32) (σ : Sg), K32 l0 l1 l2 l3 l4 l5 l6 l8 σ = some (r, σ') → Y E p l e (rmA 5 0 0) s m args below meth c none σ' 0 0 11 0 0 σ 32 [some (.ref (ad E l0)), some (.int l1), some (.int l2), some (.int l3), some (.int l4), some (.int l5), some (.long l6), none, some (.int l8), none, none] []) {l0 : Nat} {l1 : Int32} {l2 : Int32} {l3 : Int32} {l4 : Int32} {l5 : Int32} {l6 : Int64} {l8 : Int32} {l9 : Int32} {σ : Sg} (h : DX8_prorates_78 K32 l0 l1 l2 l3 l4 l5 l6 l8 l9 σ = some (r, σ')) : Y E p l e (rmA 5 0 0) s m args below meth c none σ' 0 0 11 0 0 σ 78 [some (.ref (ad E l0)), some (.int l1), some (.int l2), some (.int l3), some (.int l4), some (.int l5), some (.long l6), none, some (.int l8), some (.int l9), none] [] := by
  unfold DX8_prorates_78 at h
  refine x_iconst (v := 0) (pc := 78) C dX8_prorates_78 (by decide) ?_
  exact x_sub (tX8_prorates_79 C hr hK32 h) (xLe_s (xLe_s (xLe_s (xLe_s (xLe_s (xLe_s (xLe_s (xLe_n (xLe_s (xLe_s (xLe_n xLe_0)))))))))))
def DX8_prorates_57 (K32 : Nat → Int32 → Int32 → Int32 → Int32 → Int32 → Int64 → Int32 → Sg → Option (Unit × Sg)) (l0 : Nat) (l1 : Int32) (l2 : Int32) (l3 : Int32) (l4 : Int32) (l5 : Int32) (l6 : Int64) (l8 : Int32) (s0 : Int32) (σ : Sg) : Option (Unit × Sg) :=
  if l4 = 0 then
    chk (ckO σ 6 l0) <|
    bnd (DX8_isFlown l0 l1 l8 σ) fun v1 σ2 =>
    if v1 = 0 then
      DX8_prorates_78 K32 l0 l1 l2 l3 l4 l5 l6 l8 s0 σ2
    else
      DX8_prorates_79 K32 l0 l1 l2 l3 l4 l5 l6 l8 s0 (1 : Int32) σ2
  else
    DX8_prorates_78 K32 l0 l1 l2 l3 l4 l5 l6 l8 s0 σ
theorem tX8_prorates_57 {r : Unit} {σ' : Sg} (C : Cx E p s m args meth c RX8 cX8_prorates 11) (hr : meth.sig.returnType = none) {K32 : Nat → Int32 → Int32 → Int32 → Int32 → Int32 → Int64 → Int32 → Sg → Option (Unit × Sg)} (hK32 : ∀ (l0 : Nat) (l1 : Int32) (l2 : Int32) (l3 : Int32) (l4 : Int32) (l5 : Int32) (l6 : Int64) (l8 : Int32) (σ : Sg), K32 l0 l1 l2 l3 l4 l5 l6 l8 σ = some (r, σ') → Y E p l e (rmA 5 0 0) s m args below meth c none σ' 0 0 11 0 0 σ 32 [some (.ref (ad E l0)), some (.int l1), some (.int l2), some (.int l3), some (.int l4), some (.int l5), some (.long l6), none, some (.int l8), none, none] []) {l0 : Nat} {l1 : Int32} {l2 : Int32} {l3 : Int32} {l4 : Int32} {l5 : Int32} {l6 : Int64} {l8 : Int32} {s0 : Int32} {σ : Sg} (h : DX8_prorates_57 K32 l0 l1 l2 l3 l4 l5 l6 l8 s0 σ = some (r, σ')) : Y E p l e (rmA 5 0 0) s m args below meth c none σ' 0 0 11 0 0 σ 57 [some (.ref (ad E l0)), some (.int l1), some (.int l2), some (.int l3), some (.int l4), some (.int l5), some (.long l6), none, some (.int l8), none, none] [.int s0] := by
  unfold DX8_prorates_57 at h
  refine x_istore (M := [some _, some _, some _, some _, some _, some _, some _, none, some _, some _, none]) (pc := 57) C dX8_prorates_57 (by decide) rfl ?_
  refine x_iload (pc := 59) C dX8_prorates_59 rfl ?_
  refine x_if_ne (pc := 61) (tgt := 78) C dX8_prorates_61 (by decide) (fun q => ?_) (fun q => ?_)
  · rw [if_pos q] at h
    refine x_aload_n (pc := 64) C dX8_prorates_64 rfl rfl ?_
    refine x_iload_n (pc := 65) C dX8_prorates_65 rfl rfl ?_
    refine x_iload (pc := 66) C dX8_prorates_66 rfl ?_
    obtain ⟨k, h⟩ := chk_s h
    have k2 := k
    obtain ⟨v1, σ2, k, h⟩ := bnd_s h
    refine x_callV1 (pc := 68) C (mX8_isFlown E l k) cl6 k2 cX8_345 nX8_isFlown sX8_isFlown rfl rfl (Nat.le_of_ble_eq_true rfl) ⟨Nat.le_of_ble_eq_true rfl, Nat.le_of_ble_eq_true rfl, Nat.le_of_ble_eq_true rfl, Nat.le_of_ble_eq_true rfl⟩ dX8_prorates_68 ?_
    refine x_if_eq (pc := 71) (tgt := 78) C dX8_prorates_71 (by decide) (fun q => ?_) (fun q => ?_)
    · rw [if_pos q] at h
      exact x_sub (tX8_prorates_78 C hr hK32 h) (xLe_s (xLe_s (xLe_s (xLe_s (xLe_s (xLe_s (xLe_s (xLe_n (xLe_s (xLe_s (xLe_n xLe_0)))))))))))
    · rw [if_neg q] at h
      refine x_iconst (v := 1) (pc := 74) C dX8_prorates_74 (by decide) ?_
      refine x_goto (tgt := 79) (pc := 75) C dX8_prorates_75 (by decide) ?_
      exact x_sub (tX8_prorates_79 C hr hK32 h) (xLe_s (xLe_s (xLe_s (xLe_s (xLe_s (xLe_s (xLe_s (xLe_n (xLe_s (xLe_s (xLe_n xLe_0)))))))))))
  · rw [if_neg q] at h
    exact x_sub (tX8_prorates_78 C hr hK32 h) (xLe_s (xLe_s (xLe_s (xLe_s (xLe_s (xLe_s (xLe_s (xLe_n (xLe_s (xLe_s (xLe_n xLe_0)))))))))))
def DX8_prorates_293 (l0 : Nat) (l5 : Int32) (l6 : Int64) (σ : Sg) : Option (Unit × Sg) :=
  chk (ckO σ 6 l0) <|
  wlet (pJ σ l0 48 l6) fun σ1 =>
  chk (ckO σ1 6 l0) <|
  bnd (DX8_goesFirst l0 l5 σ1) fun _ σ2 =>
  chk (ckO σ2 6 l0) <|
  bnd (DX8_cents l0 l5 l6 σ2) fun _ σ3 =>
  some ((), σ3)
theorem tX8_prorates_293 {r : Unit} {σ' : Sg} (C : Cx E p s m args meth c RX8 cX8_prorates 11) (hr : meth.sig.returnType = none) {l0 : Nat} {l5 : Int32} {l6 : Int64} {σ : Sg} (h : DX8_prorates_293 l0 l5 l6 σ = some (r, σ')) : Y E p l e (rmA 5 0 0) s m args below meth c none σ' 0 0 11 0 0 σ 293 [some (.ref (ad E l0)), none, none, none, none, some (.int l5), some (.long l6), none, none, none, none] [] := by
  unfold DX8_prorates_293 at h
  refine x_aload_n (pc := 293) C dX8_prorates_293 rfl rfl ?_
  refine x_lload (pc := 294) C dX8_prorates_294 rfl ?_
  obtain ⟨k, h⟩ := chk_s h
  obtain ⟨σ1, e1, h⟩ := wlet_s h
  refine x_putJ (pc := 296) C pX8_354 rfl k dX8_prorates_296 (x_eq e1 ?_)
  refine x_aload_n (pc := 299) C dX8_prorates_299 rfl rfl ?_
  refine x_iload (pc := 300) C dX8_prorates_300 rfl ?_
  obtain ⟨k, h⟩ := chk_s h
  have k2 := k
  obtain ⟨u0, σ2, k, h⟩ := bnd_s h
  refine x_callV0 (pc := 302) C (mX8_goesFirst E l k) cl6 k2 cX8_357 nX8_goesFirst sX8_goesFirst rfl rfl (Nat.le_of_ble_eq_true rfl) ⟨Nat.le_of_ble_eq_true rfl, Nat.le_of_ble_eq_true rfl, Nat.le_of_ble_eq_true rfl, Nat.le_of_ble_eq_true rfl⟩ dX8_prorates_302 ?_
  refine x_aload_n (pc := 305) C dX8_prorates_305 rfl rfl ?_
  refine x_iload (pc := 306) C dX8_prorates_306 rfl ?_
  refine x_lload (pc := 308) C dX8_prorates_308 rfl ?_
  obtain ⟨k, h⟩ := chk_s h
  have k2 := k
  obtain ⟨u0, σ3, k, h⟩ := bnd_s h
  refine x_callV0 (pc := 310) C (mX8_cents E l k) cl6 k2 cX8_360 nX8_cents sX8_cents rfl rfl (Nat.le_of_ble_eq_true rfl) ⟨Nat.le_of_ble_eq_true rfl, Nat.le_of_ble_eq_true rfl, Nat.le_of_ble_eq_true rfl, Nat.le_of_ble_eq_true rfl⟩ dX8_prorates_310 ?_
  cases h
  exact x_vret C hr dX8_prorates_313
def DX8_prorates_32 : Nat → Nat → Int32 → Int32 → Int32 → Int32 → Int32 → Int64 → Int32 → Sg → Option (Unit × Sg)
  | 0, _, _, _, _, _, _, _, _, _ => none
  | n + 1, l0, l1, l2, l3, l4, l5, l6, l8, σ =>
    if l5 ≤ l8 then
      DX8_prorates_293 l0 l5 l6 σ
    else
      if l4 = 0 then
        chk (ckO σ 6 l0) <|
        bnd (DX8_holding l0 l1 l8 l3 σ) fun v1 σ2 =>
        DX8_prorates_57 (DX8_prorates_32 n) l0 l1 l2 l3 l4 l5 l6 l8 v1 σ2
      else
        DX8_prorates_57 (DX8_prorates_32 n) l0 l1 l2 l3 l4 l5 l6 l8 (-2 : Int32) σ
theorem tX8_prorates_32 {r : Unit} {σ' : Sg} (C : Cx E p s m args meth c RX8 cX8_prorates 11) (hr : meth.sig.returnType = none) : ∀ (n : Nat) (l0 : Nat) (l1 : Int32) (l2 : Int32) (l3 : Int32) (l4 : Int32) (l5 : Int32) (l6 : Int64) (l8 : Int32) (σ : Sg) (h : DX8_prorates_32 n l0 l1 l2 l3 l4 l5 l6 l8 σ = some (r, σ')), Y E p l e (rmA 5 0 0) s m args below meth c none σ' 0 0 11 0 0 σ 32 [some (.ref (ad E l0)), some (.int l1), some (.int l2), some (.int l3), some (.int l4), some (.int l5), some (.long l6), none, some (.int l8), none, none] [] := by
  intro n
  induction n with
  | zero => intro l0 l1 l2 l3 l4 l5 l6 l8 σ h; cases h
  | succ n ih =>
    intro l0 l1 l2 l3 l4 l5 l6 l8 σ h
    unfold DX8_prorates_32 at h
    refine x_iload (pc := 32) C dX8_prorates_32 rfl ?_
    refine x_iload (pc := 34) C dX8_prorates_34 rfl ?_
    refine x_icmp_ge (pc := 36) (tgt := 293) C dX8_prorates_36 (by decide) (fun q => ?_) (fun q => ?_)
    · rw [if_pos q] at h
      exact x_sub (tX8_prorates_293 C hr h) (xLe_s (xLe_n (xLe_n (xLe_n (xLe_n (xLe_s (xLe_s (xLe_n (xLe_n (xLe_n (xLe_n xLe_0)))))))))))
    · rw [if_neg q] at h
      refine x_iload (pc := 39) C dX8_prorates_39 rfl ?_
      refine x_if_eq (pc := 41) (tgt := 49) C dX8_prorates_41 (by decide) (fun q => ?_) (fun q => ?_)
      · rw [if_pos q] at h
        refine x_aload_n (pc := 49) C dX8_prorates_49 rfl rfl ?_
        refine x_iload_n (pc := 50) C dX8_prorates_50 rfl rfl ?_
        refine x_iload (pc := 51) C dX8_prorates_51 rfl ?_
        refine x_iload_n (pc := 53) C dX8_prorates_53 rfl rfl ?_
        obtain ⟨k, h⟩ := chk_s h
        have k2 := k
        obtain ⟨v1, σ2, k, h⟩ := bnd_s h
        refine x_callV1 (pc := 54) C (mX8_holding E l k) cl6 k2 cX8_342 nX8_holding sX8_holding rfl rfl (Nat.le_of_ble_eq_true rfl) ⟨Nat.le_of_ble_eq_true rfl, Nat.le_of_ble_eq_true rfl, Nat.le_of_ble_eq_true rfl, Nat.le_of_ble_eq_true rfl⟩ dX8_prorates_54 ?_
        exact x_sub (tX8_prorates_57 C hr ih h) (xLe_s (xLe_s (xLe_s (xLe_s (xLe_s (xLe_s (xLe_s (xLe_n (xLe_s (xLe_n (xLe_n xLe_0)))))))))))
      · rw [if_neg q] at h
        refine x_bipush (v := -2) (pc := 44) C dX8_prorates_44 (by decide) ?_
        refine x_goto (tgt := 57) (pc := 46) C dX8_prorates_46 (by decide) ?_
        exact x_sub (tX8_prorates_57 C hr ih h) (xLe_s (xLe_s (xLe_s (xLe_s (xLe_s (xLe_s (xLe_s (xLe_n (xLe_s (xLe_n (xLe_n xLe_0)))))))))))
def DX8_prorates (l0 : Nat) (l1 : Int32) (l2 : Int32) (l3 : Int32) (l4 : Int32) (σ : Sg) : Option (Unit × Sg) :=
  chk (ckO σ 6 l0) <|
  bnd (DX8_couponsOf l0 l1 σ) fun v1 σ2 =>
  chk (ckO σ2 6 l0) <|
  bnd (DX8_fare l0 l1 σ2) fun v3 σ4 =>
  chk (ckO σ4 6 l0) <|
  wlet (pI σ4 l0 49 (0 : Int32)) fun σ5 =>
  chk (ckO σ5 6 l0) <|
  wlet (pI σ5 l0 50 (0 : Int32)) fun σ6 =>
  chk (ckO σ6 6 l0) <|
  wlet (pJ σ6 l0 47 (1 : Int64)) fun σ7 =>
  DX8_prorates_32 FU l0 l1 l2 l3 l4 v1 v3 (0 : Int32) σ7
theorem mX8_prorates (E : Ev) (l : Launch) {l0 : Nat} {l1 : Int32} {l2 : Int32} {l3 : Int32} {l4 : Int32} {σ : Sg} {r : Unit} {σ' : Sg} (h : DX8_prorates l0 l1 l2 l3 l4 σ = some (r, σ')) : Mt E l yX8_prorates cX8_prorates 11 none 5 0 0 [.ref (ad E l0), .int l1, .int l2, .int l3, .int l4] σ none σ' := by
  refine Mt.ofX (by decide) (Nat.le_of_ble_eq_true rfl) (L0 := [some (.ref (ad E l0)), some (.int l1), some (.int l2), some (.int l3), some (.int l4), none, none, none, none, none, none]) (xEntN_ok [.ref (ad E l0), .int l1, .int l2, .int l3, .int l4] 11) (fun p e s m args below meth c C hr hn => ?_)
  unfold DX8_prorates at h
  refine x_aload_n (pc := 0) C dX8_prorates_0 rfl rfl ?_
  refine x_iload_n (pc := 1) C dX8_prorates_1 rfl rfl ?_
  obtain ⟨k, h⟩ := chk_s h
  have k2 := k
  obtain ⟨v1, σ2, k, h⟩ := bnd_s h
  refine x_callV1 (pc := 2) C (mX8_couponsOf E l k) cl6 k2 cX8_301 nX8_couponsOf sX8_couponsOf rfl rfl (Nat.le_of_ble_eq_true rfl) ⟨Nat.le_of_ble_eq_true rfl, Nat.le_of_ble_eq_true rfl, Nat.le_of_ble_eq_true rfl, Nat.le_of_ble_eq_true rfl⟩ dX8_prorates_2 ?_
  refine x_istore (M := [some _, some _, some _, some _, some _, some _, none, none, none, none, none]) (pc := 5) C dX8_prorates_5 (by decide) rfl ?_
  refine x_aload_n (pc := 7) C dX8_prorates_7 rfl rfl ?_
  refine x_iload_n (pc := 8) C dX8_prorates_8 rfl rfl ?_
  obtain ⟨k, h⟩ := chk_s h
  have k2 := k
  obtain ⟨v3, σ4, k, h⟩ := bnd_s h
  refine x_callV1 (pc := 9) C (mX8_fare E l k) cl6 k2 cX8_328 nX8_fare sX8_fare rfl rfl (Nat.le_of_ble_eq_true rfl) ⟨Nat.le_of_ble_eq_true rfl, Nat.le_of_ble_eq_true rfl, Nat.le_of_ble_eq_true rfl, Nat.le_of_ble_eq_true rfl⟩ dX8_prorates_9 ?_
  refine x_lstore (M := [some _, some _, some _, some _, some _, some _, some _, none, none, none, none]) (pc := 12) C dX8_prorates_12 (by decide) rfl ?_
  refine x_aload_n (pc := 14) C dX8_prorates_14 rfl rfl ?_
  refine x_iconst (v := 0) (pc := 15) C dX8_prorates_15 (by decide) ?_
  obtain ⟨k, h⟩ := chk_s h
  obtain ⟨σ5, e1, h⟩ := wlet_s h
  refine x_putI (pc := 16) C pX8_332 rfl k dX8_prorates_16 (x_eq e1 ?_)
  refine x_aload_n (pc := 19) C dX8_prorates_19 rfl rfl ?_
  refine x_iconst (v := 0) (pc := 20) C dX8_prorates_20 (by decide) ?_
  obtain ⟨k, h⟩ := chk_s h
  obtain ⟨σ6, e1, h⟩ := wlet_s h
  refine x_putI (pc := 21) C pX8_335 rfl k dX8_prorates_21 (x_eq e1 ?_)
  refine x_aload_n (pc := 24) C dX8_prorates_24 rfl rfl ?_
  refine x_lconst (v := 1) (pc := 25) C dX8_prorates_25 (by decide) ?_
  obtain ⟨k, h⟩ := chk_s h
  obtain ⟨σ7, e1, h⟩ := wlet_s h
  refine x_putJ (pc := 26) C pX8_338 rfl k dX8_prorates_26 (x_eq e1 ?_)
  refine x_iconst (v := 0) (pc := 29) C dX8_prorates_29 (by decide) ?_
  refine x_istore (M := [some _, some _, some _, some _, some _, some _, some _, none, some _, none, none]) (pc := 30) C dX8_prorates_30 (by decide) rfl ?_
  exact x_sub (tX8_prorates_32 C hr FU _ _ _ _ _ _ _ _ _ h) (xLe_s (xLe_s (xLe_s (xLe_s (xLe_s (xLe_s (xLe_s (xLe_n (xLe_s (xLe_n (xLe_n xLe_0)))))))))))
def DX8_prorates_ (l0 : Nat) (l1 : Int32) (σ : Sg) : Option (Unit × Sg) :=
  chk (ckO σ 6 l0) <|
  chk (ckV (gR σ l0 16)) <|
  chk (ckI σ (gR σ l0 16) (((4 : Int32) * l1) + (1 : Int32))) <|
  chk (ckO σ 6 l0) <|
  bnd (DX8_prorates l0 l1 (aI σ (gR σ l0 16) (((4 : Int32) * l1) + (1 : Int32)).toNatClampNeg) (-2 : Int32) (0 : Int32) σ) fun _ σ1 =>
  some ((), σ1)
theorem mX8_prorates_ (E : Ev) (l : Launch) {l0 : Nat} {l1 : Int32} {σ : Sg} {r : Unit} {σ' : Sg} (h : DX8_prorates_ l0 l1 σ = some (r, σ')) : Mt E l yX8_prorates_ cX8_prorates_ 2 none 6 0 0 [.ref (ad E l0), .int l1] σ none σ' := by
  refine Mt.ofX (by decide) (Nat.le_of_ble_eq_true rfl) (L0 := [some (.ref (ad E l0)), some (.int l1)]) (xEntN_ok [.ref (ad E l0), .int l1] 2) (fun p e s m args below meth c C hr hn => ?_)
  unfold DX8_prorates_ at h
  refine x_aload_n (pc := 0) C dX8_prorates__0 rfl rfl ?_
  refine x_iload_n (pc := 1) C dX8_prorates__1 rfl rfl ?_
  refine x_aload_n (pc := 2) C dX8_prorates__2 rfl rfl ?_
  obtain ⟨k, h⟩ := chk_s h
  have k2 := k
  obtain ⟨k, h⟩ := chk_s h
  refine x_getR (pc := 3) C fX8_25 rfl k2 k dX8_prorates__3 ?_
  refine x_iconst (v := 4) (pc := 6) C dX8_prorates__6 (by decide) ?_
  refine x_iload_n (pc := 7) C dX8_prorates__7 rfl rfl ?_
  refine x_imul (pc := 8) C dX8_prorates__8 ?_
  refine x_iconst (v := 1) (pc := 9) C dX8_prorates__9 (by decide) ?_
  refine x_iadd (pc := 10) C dX8_prorates__10 ?_
  obtain ⟨k, h⟩ := chk_s h
  refine x_iald (pc := 11) C k dX8_prorates__11 ?_
  refine x_bipush (v := -2) (pc := 12) C dX8_prorates__12 (by decide) ?_
  refine x_iconst (v := 0) (pc := 14) C dX8_prorates__14 (by decide) ?_
  obtain ⟨k, h⟩ := chk_s h
  have k2 := k
  obtain ⟨u0, σ1, k, h⟩ := bnd_s h
  refine x_callV0 (pc := 15) C (mX8_prorates E l k) cl6 k2 cX8_383 nX8_prorates sX8_prorates rfl rfl (Nat.le_of_ble_eq_true rfl) ⟨Nat.le_of_ble_eq_true rfl, Nat.le_of_ble_eq_true rfl, Nat.le_of_ble_eq_true rfl, Nat.le_of_ble_eq_true rfl⟩ dX8_prorates__15 ?_
  cases h
  exact x_vret C hr dX8_prorates__18
def DX8_proviso_46 (s0 : Nat) (s1 : Int32) (s2 : Int32) (σ : Sg) : Option (Int32 × Sg) :=
  chk (ckI σ s0 (s1 + s2)) <|
  some ((aI σ s0 (s1 + s2).toNatClampNeg), σ)
theorem tX8_proviso_46 {r : Int32} {σ' : Sg} (C : Cx E p s m args meth c RX8 cX8_proviso 6) (hr : meth.sig.returnType = (some .int)) {s0 : Nat} {s1 : Int32} {s2 : Int32} {σ : Sg} (h : DX8_proviso_46 s0 s1 s2 σ = some (r, σ')) : Y E p l e (rmA 4 0 0) s m args below meth c (some (.int r)) σ' 0 0 6 0 0 σ 46 [none, none, none, none, none, none] [.int s2, .int s1, .ref (ad E s0)] := by
  unfold DX8_proviso_46 at h
  refine x_iadd (pc := 46) C dX8_proviso_46 ?_
  obtain ⟨k, h⟩ := chk_s h
  refine x_iald (pc := 47) C k dX8_proviso_47 ?_
  cases h
  exact x_iret C hr dX8_proviso_48
def DX8_proviso_110 (K67 : Nat → Int32 → Int32 → Int32 → Sg → Option (Int32 × Sg)) (K79 : Nat → Int32 → Int32 → Int32 → Int32 → Sg → Option (Int32 × Sg)) (l0 : Nat) (l1 : Int32) (l4 : Int32) (l5 : Int32) (s0 : Int32) (s1 : Int32) (σ : Sg) : Option (Int32 × Sg) :=
  K79 l0 l1 (s0 + s1) l4 (l5 + (1 : Int32)) σ
theorem tX8_proviso_110 {r : Int32} {σ' : Sg} (C : Cx E p s m args meth c RX8 cX8_proviso 6) (hr : meth.sig.returnType = (some .int)) {K67 : Nat → Int32 → Int32 → Int32 → Sg → Option (Int32 × Sg)} (hK67 : ∀ (l0 : Nat) (l1 : Int32) (l3 : Int32) (l4 : Int32) (σ : Sg), K67 l0 l1 l3 l4 σ = some (r, σ') → Y E p l e (rmA 4 0 0) s m args below meth c (some (.int r)) σ' 0 0 6 0 0 σ 67 [some (.ref (ad E l0)), some (.int l1), none, some (.int l3), some (.int l4), none] []) {K79 : Nat → Int32 → Int32 → Int32 → Int32 → Sg → Option (Int32 × Sg)} (hK79 : ∀ (l0 : Nat) (l1 : Int32) (l3 : Int32) (l4 : Int32) (l5 : Int32) (σ : Sg), K79 l0 l1 l3 l4 l5 σ = some (r, σ') → Y E p l e (rmA 4 0 0) s m args below meth c (some (.int r)) σ' 0 0 6 0 0 σ 79 [some (.ref (ad E l0)), some (.int l1), none, some (.int l3), some (.int l4), some (.int l5)] []) {l0 : Nat} {l1 : Int32} {l4 : Int32} {l5 : Int32} {s0 : Int32} {s1 : Int32} {σ : Sg} (h : DX8_proviso_110 K67 K79 l0 l1 l4 l5 s0 s1 σ = some (r, σ')) : Y E p l e (rmA 4 0 0) s m args below meth c (some (.int r)) σ' 0 0 6 0 0 σ 110 [some (.ref (ad E l0)), some (.int l1), none, none, some (.int l4), some (.int l5)] [.int s1, .int s0] := by
  unfold DX8_proviso_110 at h
  refine x_iadd (pc := 110) C dX8_proviso_110 ?_
  refine x_istore_n (M := [some _, some _, none, some _, some _, some _]) (pc := 111) C dX8_proviso_111 rfl (by decide) rfl ?_
  refine x_iinc (v := 1) (M := [some _, some _, none, some _, some _, some _]) (pc := 112) C dX8_proviso_112 rfl (by decide) (by decide) rfl ?_
  refine x_goto (tgt := 79) (pc := 115) C dX8_proviso_115 (by decide) ?_
  exact x_sub (hK79 _ _ _ _ _ _ h) (xLe_s (xLe_s (xLe_n (xLe_s (xLe_s (xLe_s xLe_0))))))
def DX8_proviso_118 (K67 : Nat → Int32 → Int32 → Int32 → Sg → Option (Int32 × Sg)) (l0 : Nat) (l1 : Int32) (l3 : Int32) (l4 : Int32) (σ : Sg) : Option (Int32 × Sg) :=
  K67 l0 l1 l3 (l4 + (1 : Int32)) σ
theorem tX8_proviso_118 {r : Int32} {σ' : Sg} (C : Cx E p s m args meth c RX8 cX8_proviso 6) (hr : meth.sig.returnType = (some .int)) {K67 : Nat → Int32 → Int32 → Int32 → Sg → Option (Int32 × Sg)} (hK67 : ∀ (l0 : Nat) (l1 : Int32) (l3 : Int32) (l4 : Int32) (σ : Sg), K67 l0 l1 l3 l4 σ = some (r, σ') → Y E p l e (rmA 4 0 0) s m args below meth c (some (.int r)) σ' 0 0 6 0 0 σ 67 [some (.ref (ad E l0)), some (.int l1), none, some (.int l3), some (.int l4), none] []) {l0 : Nat} {l1 : Int32} {l3 : Int32} {l4 : Int32} {σ : Sg} (h : DX8_proviso_118 K67 l0 l1 l3 l4 σ = some (r, σ')) : Y E p l e (rmA 4 0 0) s m args below meth c (some (.int r)) σ' 0 0 6 0 0 σ 118 [some (.ref (ad E l0)), some (.int l1), none, some (.int l3), some (.int l4), none] [] := by
  unfold DX8_proviso_118 at h
  refine x_iinc (v := 1) (M := [some _, some _, none, some _, some _, none]) (pc := 118) C dX8_proviso_118 rfl (by decide) (by decide) rfl ?_
  refine x_goto (tgt := 67) (pc := 121) C dX8_proviso_121 (by decide) ?_
  exact x_sub (hK67 _ _ _ _ _ h) (xLe_s (xLe_s (xLe_n (xLe_s (xLe_s (xLe_n xLe_0))))))
def DX8_proviso_79 (K67 : Nat → Int32 → Int32 → Int32 → Sg → Option (Int32 × Sg)) : Nat → Nat → Int32 → Int32 → Int32 → Int32 → Sg → Option (Int32 × Sg)
  | 0, _, _, _, _, _, _ => none
  | n + 1, l0, l1, l3, l4, l5, σ =>
    chk (ckO σ 6 l0) <|
    bnd (DX8_couponsOf l0 l4 σ) fun v1 σ2 =>
    if v1 ≤ l5 then
      DX8_proviso_118 K67 l0 l1 l3 l4 σ2
    else
      chk (ckO σ2 6 l0) <|
      bnd (DX8_holding l0 l4 l5 (-2 : Int32) σ2) fun v3 σ4 =>
      if v3 = l1 then
        DX8_proviso_110 K67 (DX8_proviso_79 K67 n) l0 l1 l4 l5 l3 (1 : Int32) σ4
      else
        DX8_proviso_110 K67 (DX8_proviso_79 K67 n) l0 l1 l4 l5 l3 (0 : Int32) σ4
theorem tX8_proviso_79 {r : Int32} {σ' : Sg} (C : Cx E p s m args meth c RX8 cX8_proviso 6) (hr : meth.sig.returnType = (some .int)) {K67 : Nat → Int32 → Int32 → Int32 → Sg → Option (Int32 × Sg)} (hK67 : ∀ (l0 : Nat) (l1 : Int32) (l3 : Int32) (l4 : Int32) (σ : Sg), K67 l0 l1 l3 l4 σ = some (r, σ') → Y E p l e (rmA 4 0 0) s m args below meth c (some (.int r)) σ' 0 0 6 0 0 σ 67 [some (.ref (ad E l0)), some (.int l1), none, some (.int l3), some (.int l4), none] []) : ∀ (n : Nat) (l0 : Nat) (l1 : Int32) (l3 : Int32) (l4 : Int32) (l5 : Int32) (σ : Sg) (h : DX8_proviso_79 K67 n l0 l1 l3 l4 l5 σ = some (r, σ')), Y E p l e (rmA 4 0 0) s m args below meth c (some (.int r)) σ' 0 0 6 0 0 σ 79 [some (.ref (ad E l0)), some (.int l1), none, some (.int l3), some (.int l4), some (.int l5)] [] := by
  intro n
  induction n with
  | zero => intro l0 l1 l3 l4 l5 σ h; cases h
  | succ n ih =>
    intro l0 l1 l3 l4 l5 σ h
    unfold DX8_proviso_79 at h
    refine x_iload (pc := 79) C dX8_proviso_79 rfl ?_
    refine x_aload_n (pc := 81) C dX8_proviso_81 rfl rfl ?_
    refine x_iload (pc := 82) C dX8_proviso_82 rfl ?_
    obtain ⟨k, h⟩ := chk_s h
    have k2 := k
    obtain ⟨v1, σ2, k, h⟩ := bnd_s h
    refine x_callV1 (pc := 84) C (mX8_couponsOf E l k) cl6 k2 cX8_301 nX8_couponsOf sX8_couponsOf rfl rfl (Nat.le_of_ble_eq_true rfl) ⟨Nat.le_of_ble_eq_true rfl, Nat.le_of_ble_eq_true rfl, Nat.le_of_ble_eq_true rfl, Nat.le_of_ble_eq_true rfl⟩ dX8_proviso_84 ?_
    refine x_icmp_ge (pc := 87) (tgt := 118) C dX8_proviso_87 (by decide) (fun q => ?_) (fun q => ?_)
    · rw [if_pos q] at h
      exact x_sub (tX8_proviso_118 C hr hK67 h) (xLe_s (xLe_s (xLe_n (xLe_s (xLe_s (xLe_n xLe_0))))))
    · rw [if_neg q] at h
      refine x_iload_n (pc := 90) C dX8_proviso_90 rfl rfl ?_
      refine x_aload_n (pc := 91) C dX8_proviso_91 rfl rfl ?_
      refine x_iload (pc := 92) C dX8_proviso_92 rfl ?_
      refine x_iload (pc := 94) C dX8_proviso_94 rfl ?_
      refine x_bipush (v := -2) (pc := 96) C dX8_proviso_96 (by decide) ?_
      obtain ⟨k, h⟩ := chk_s h
      have k2 := k
      obtain ⟨v3, σ4, k, h⟩ := bnd_s h
      refine x_callV1 (pc := 98) C (mX8_holding E l k) cl6 k2 cX8_342 nX8_holding sX8_holding rfl rfl (Nat.le_of_ble_eq_true rfl) ⟨Nat.le_of_ble_eq_true rfl, Nat.le_of_ble_eq_true rfl, Nat.le_of_ble_eq_true rfl, Nat.le_of_ble_eq_true rfl⟩ dX8_proviso_98 ?_
      refine x_iload_n (pc := 101) C dX8_proviso_101 rfl rfl ?_
      refine x_icmp_ne (pc := 102) (tgt := 109) C dX8_proviso_102 (by decide) (fun q => ?_) (fun q => ?_)
      · rw [if_pos q] at h
        refine x_iconst (v := 1) (pc := 105) C dX8_proviso_105 (by decide) ?_
        refine x_goto (tgt := 110) (pc := 106) C dX8_proviso_106 (by decide) ?_
        exact x_sub (tX8_proviso_110 C hr hK67 ih h) (xLe_s (xLe_s (xLe_n (xLe_n (xLe_s (xLe_s xLe_0))))))
      · rw [if_neg q] at h
        refine x_iconst (v := 0) (pc := 109) C dX8_proviso_109 (by decide) ?_
        exact x_sub (tX8_proviso_110 C hr hK67 ih h) (xLe_s (xLe_s (xLe_n (xLe_n (xLe_s (xLe_s xLe_0))))))
def DX8_proviso_124 (l3 : Int32) (σ : Sg) : Option (Int32 × Sg) :=
  some (l3, σ)
theorem tX8_proviso_124 {r : Int32} {σ' : Sg} (C : Cx E p s m args meth c RX8 cX8_proviso 6) (hr : meth.sig.returnType = (some .int)) {l3 : Int32} {σ : Sg} (h : DX8_proviso_124 l3 σ = some (r, σ')) : Y E p l e (rmA 4 0 0) s m args below meth c (some (.int r)) σ' 0 0 6 0 0 σ 124 [none, none, none, some (.int l3), none, none] [] := by
  unfold DX8_proviso_124 at h
  refine x_iload_n (pc := 124) C dX8_proviso_124 rfl rfl ?_
  cases h
  exact x_iret C hr dX8_proviso_125
def DX8_proviso_67 : Nat → Nat → Int32 → Int32 → Int32 → Sg → Option (Int32 × Sg)
  | 0, _, _, _, _, _ => none
  | n + 1, l0, l1, l3, l4, σ =>
    chk (ckO σ 6 l0) <|
    if (gI σ l0 9) ≤ l4 then
      DX8_proviso_124 l3 σ
    else
      DX8_proviso_79 (DX8_proviso_67 n) FU l0 l1 l3 l4 (0 : Int32) σ
theorem tX8_proviso_67 {r : Int32} {σ' : Sg} (C : Cx E p s m args meth c RX8 cX8_proviso 6) (hr : meth.sig.returnType = (some .int)) : ∀ (n : Nat) (l0 : Nat) (l1 : Int32) (l3 : Int32) (l4 : Int32) (σ : Sg) (h : DX8_proviso_67 n l0 l1 l3 l4 σ = some (r, σ')), Y E p l e (rmA 4 0 0) s m args below meth c (some (.int r)) σ' 0 0 6 0 0 σ 67 [some (.ref (ad E l0)), some (.int l1), none, some (.int l3), some (.int l4), none] [] := by
  intro n
  induction n with
  | zero => intro l0 l1 l3 l4 σ h; cases h
  | succ n ih =>
    intro l0 l1 l3 l4 σ h
    unfold DX8_proviso_67 at h
    refine x_iload (pc := 67) C dX8_proviso_67 rfl ?_
    refine x_aload_n (pc := 69) C dX8_proviso_69 rfl rfl ?_
    obtain ⟨k, h⟩ := chk_s h
    refine x_getI (pc := 70) C fX8_192 rfl k dX8_proviso_70 ?_
    refine x_icmp_ge (pc := 73) (tgt := 124) C dX8_proviso_73 (by decide) (fun q => ?_) (fun q => ?_)
    · rw [if_pos q] at h
      exact x_sub (tX8_proviso_124 C hr h) (xLe_n (xLe_n (xLe_n (xLe_s (xLe_n (xLe_n xLe_0))))))
    · rw [if_neg q] at h
      refine x_iconst (v := 0) (pc := 76) C dX8_proviso_76 (by decide) ?_
      refine x_istore (M := [some _, some _, none, some _, some _, some _]) (pc := 77) C dX8_proviso_77 (by decide) rfl ?_
      exact x_sub (tX8_proviso_79 C hr ih FU _ _ _ _ _ _ h) (xLe_s (xLe_s (xLe_n (xLe_s (xLe_s (xLe_s xLe_0))))))
def DX8_proviso_49 (l0 : Nat) (l1 : Int32) (l2 : Int32) (σ : Sg) : Option (Int32 × Sg) :=
  if l2 = (6 : Int32) then
    DX8_proviso_67 FU l0 l1 (0 : Int32) (0 : Int32) σ
  else
    chk (ckO σ 6 l0) <|
    wlet (pI σ l0 0 (2 : Int32)) fun σ1 =>
    some ((0 : Int32), σ1)
theorem tX8_proviso_49 {r : Int32} {σ' : Sg} (C : Cx E p s m args meth c RX8 cX8_proviso 6) (hr : meth.sig.returnType = (some .int)) {l0 : Nat} {l1 : Int32} {l2 : Int32} {σ : Sg} (h : DX8_proviso_49 l0 l1 l2 σ = some (r, σ')) : Y E p l e (rmA 4 0 0) s m args below meth c (some (.int r)) σ' 0 0 6 0 0 σ 49 [some (.ref (ad E l0)), some (.int l1), some (.int l2), none, none, none] [] := by
  unfold DX8_proviso_49 at h
  refine x_iload_n (pc := 49) C dX8_proviso_49 rfl rfl ?_
  refine x_bipush (v := 6) (pc := 50) C dX8_proviso_50 (by decide) ?_
  refine x_icmp_eq (pc := 52) (tgt := 62) C dX8_proviso_52 (by decide) (fun q => ?_) (fun q => ?_)
  · rw [if_pos q] at h
    refine x_iconst (v := 0) (pc := 62) C dX8_proviso_62 (by decide) ?_
    refine x_istore_n (M := [some _, some _, some _, some _, none, none]) (pc := 63) C dX8_proviso_63 rfl (by decide) rfl ?_
    refine x_iconst (v := 0) (pc := 64) C dX8_proviso_64 (by decide) ?_
    refine x_istore (M := [some _, some _, some _, some _, some _, none]) (pc := 65) C dX8_proviso_65 (by decide) rfl ?_
    exact x_sub (tX8_proviso_67 C hr FU _ _ _ _ _ h) (xLe_s (xLe_s (xLe_n (xLe_s (xLe_s (xLe_n xLe_0))))))
  · rw [if_neg q] at h
    refine x_aload_n (pc := 55) C dX8_proviso_55 rfl rfl ?_
    refine x_iconst (v := 2) (pc := 56) C dX8_proviso_56 (by decide) ?_
    obtain ⟨k, h⟩ := chk_s h
    obtain ⟨σ1, e1, h⟩ := wlet_s h
    refine x_putI (pc := 57) C pX8_112 rfl k dX8_proviso_57 (x_eq e1 ?_)
    refine x_iconst (v := 0) (pc := 60) C dX8_proviso_60 (by decide) ?_
    cases h
    exact x_iret C hr dX8_proviso_61
def DX8_proviso (l0 : Nat) (l1 : Int32) (l2 : Int32) (σ : Sg) : Option (Int32 × Sg) :=
  chk (ckO σ 6 l0) <|
  wlet (pI σ l0 0 (0 : Int32)) fun σ1 =>
  chk (ckO σ1 6 l0) <|
  bnd (DX8_isProviso l0 l1 σ1) fun v2 σ3 =>
  if v2 = 0 then
    chk (ckO σ3 6 l0) <|
    wlet (pI σ3 l0 0 (1 : Int32)) fun σ4 =>
    some ((0 : Int32), σ4)
  else
    if l2 < 0 then
      DX8_proviso_49 l0 l1 l2 σ3
    else
      if (5 : Int32) < l2 then
        DX8_proviso_49 l0 l1 l2 σ3
      else
        chk (ckO σ3 6 l0) <|
        chk (ckV (gR σ3 l0 14)) <|
        if l2 = 0 then
          DX8_proviso_46 (gR σ3 l0 14) ((6 : Int32) * l1) (0 : Int32) σ3
        else
          DX8_proviso_46 (gR σ3 l0 14) ((6 : Int32) * l1) l2 σ3
theorem mX8_proviso (E : Ev) (l : Launch) {l0 : Nat} {l1 : Int32} {l2 : Int32} {σ : Sg} {r : Int32} {σ' : Sg} (h : DX8_proviso l0 l1 l2 σ = some (r, σ')) : Mt E l yX8_proviso cX8_proviso 6 (some .int) 4 0 0 [.ref (ad E l0), .int l1, .int l2] σ (some (.int r)) σ' := by
  refine Mt.ofX (by decide) (Nat.le_of_ble_eq_true rfl) (L0 := [some (.ref (ad E l0)), some (.int l1), some (.int l2), none, none, none]) (xEntN_ok [.ref (ad E l0), .int l1, .int l2] 6) (fun p e s m args below meth c C hr hn => ?_)
  unfold DX8_proviso at h
  refine x_aload_n (pc := 0) C dX8_proviso_0 rfl rfl ?_
  refine x_iconst (v := 0) (pc := 1) C dX8_proviso_1 (by decide) ?_
  obtain ⟨k, h⟩ := chk_s h
  obtain ⟨σ1, e1, h⟩ := wlet_s h
  refine x_putI (pc := 2) C pX8_112 rfl k dX8_proviso_2 (x_eq e1 ?_)
  refine x_aload_n (pc := 5) C dX8_proviso_5 rfl rfl ?_
  refine x_iload_n (pc := 6) C dX8_proviso_6 rfl rfl ?_
  obtain ⟨k, h⟩ := chk_s h
  have k2 := k
  obtain ⟨v2, σ3, k, h⟩ := bnd_s h
  refine x_callV1 (pc := 7) C (mX8_isProviso E l k) cl6 k2 cX8_387 nX8_isProviso sX8_isProviso rfl rfl (Nat.le_of_ble_eq_true rfl) ⟨Nat.le_of_ble_eq_true rfl, Nat.le_of_ble_eq_true rfl, Nat.le_of_ble_eq_true rfl, Nat.le_of_ble_eq_true rfl⟩ dX8_proviso_7 ?_
  refine x_if_ne (pc := 10) (tgt := 20) C dX8_proviso_10 (by decide) (fun q => ?_) (fun q => ?_)
  · rw [if_pos q] at h
    refine x_aload_n (pc := 13) C dX8_proviso_13 rfl rfl ?_
    refine x_iconst (v := 1) (pc := 14) C dX8_proviso_14 (by decide) ?_
    obtain ⟨k, h⟩ := chk_s h
    obtain ⟨σ4, e1, h⟩ := wlet_s h
    refine x_putI (pc := 15) C pX8_112 rfl k dX8_proviso_15 (x_eq e1 ?_)
    refine x_iconst (v := 0) (pc := 18) C dX8_proviso_18 (by decide) ?_
    cases h
    exact x_iret C hr dX8_proviso_19
  · rw [if_neg q] at h
    refine x_iload_n (pc := 20) C dX8_proviso_20 rfl rfl ?_
    refine x_if_lt (pc := 21) (tgt := 49) C dX8_proviso_21 (by decide) (fun q => ?_) (fun q => ?_)
    · rw [if_pos q] at h
      exact x_sub (tX8_proviso_49 C hr h) (xLe_s (xLe_s (xLe_s (xLe_n (xLe_n (xLe_n xLe_0))))))
    · rw [if_neg q] at h
      refine x_iload_n (pc := 24) C dX8_proviso_24 rfl rfl ?_
      refine x_iconst (v := 5) (pc := 25) C dX8_proviso_25 (by decide) ?_
      refine x_icmp_gt (pc := 26) (tgt := 49) C dX8_proviso_26 (by decide) (fun q => ?_) (fun q => ?_)
      · rw [if_pos q] at h
        exact x_sub (tX8_proviso_49 C hr h) (xLe_s (xLe_s (xLe_s (xLe_n (xLe_n (xLe_n xLe_0))))))
      · rw [if_neg q] at h
        refine x_aload_n (pc := 29) C dX8_proviso_29 rfl rfl ?_
        obtain ⟨k, h⟩ := chk_s h
        have k2 := k
        obtain ⟨k, h⟩ := chk_s h
        refine x_getR (pc := 30) C fX8_19 rfl k2 k dX8_proviso_30 ?_
        refine x_bipush (v := 6) (pc := 33) C dX8_proviso_33 (by decide) ?_
        refine x_iload_n (pc := 35) C dX8_proviso_35 rfl rfl ?_
        refine x_imul (pc := 36) C dX8_proviso_36 ?_
        refine x_iload_n (pc := 37) C dX8_proviso_37 rfl rfl ?_
        refine x_if_ne (pc := 38) (tgt := 45) C dX8_proviso_38 (by decide) (fun q => ?_) (fun q => ?_)
        · rw [if_pos q] at h
          refine x_iconst (v := 0) (pc := 41) C dX8_proviso_41 (by decide) ?_
          refine x_goto (tgt := 46) (pc := 42) C dX8_proviso_42 (by decide) ?_
          exact x_sub (tX8_proviso_46 C hr h) (xLe_n (xLe_n (xLe_n (xLe_n (xLe_n (xLe_n xLe_0))))))
        · rw [if_neg q] at h
          refine x_iload_n (pc := 45) C dX8_proviso_45 rfl rfl ?_
          exact x_sub (tX8_proviso_46 C hr h) (xLe_n (xLe_n (xLe_n (xLe_n (xLe_n (xLe_n xLe_0))))))
def DX8_flownOf_28 (K4 : Nat → Int32 → Int32 → Int32 → Sg → Option (Int32 × Sg)) (l0 : Nat) (l1 : Int32) (l3 : Int32) (s0 : Int32) (s1 : Int32) (σ : Sg) : Option (Int32 × Sg) :=
  K4 l0 l1 (s0 + s1) (l3 + (1 : Int32)) σ
theorem tX8_flownOf_28 {r : Int32} {σ' : Sg} (C : Cx E p s m args meth c RX8 cX8_flownOf 4) (hr : meth.sig.returnType = (some .int)) {K4 : Nat → Int32 → Int32 → Int32 → Sg → Option (Int32 × Sg)} (hK4 : ∀ (l0 : Nat) (l1 : Int32) (l2 : Int32) (l3 : Int32) (σ : Sg), K4 l0 l1 l2 l3 σ = some (r, σ') → Y E p l e (rmA 2 0 0) s m args below meth c (some (.int r)) σ' 0 0 4 0 0 σ 4 [some (.ref (ad E l0)), some (.int l1), some (.int l2), some (.int l3)] []) {l0 : Nat} {l1 : Int32} {l3 : Int32} {s0 : Int32} {s1 : Int32} {σ : Sg} (h : DX8_flownOf_28 K4 l0 l1 l3 s0 s1 σ = some (r, σ')) : Y E p l e (rmA 2 0 0) s m args below meth c (some (.int r)) σ' 0 0 4 0 0 σ 28 [some (.ref (ad E l0)), some (.int l1), none, some (.int l3)] [.int s1, .int s0] := by
  unfold DX8_flownOf_28 at h
  refine x_iadd (pc := 28) C dX8_flownOf_28 ?_
  refine x_istore_n (M := [some _, some _, some _, some _]) (pc := 29) C dX8_flownOf_29 rfl (by decide) rfl ?_
  refine x_iinc (v := 1) (M := [some _, some _, some _, some _]) (pc := 30) C dX8_flownOf_30 rfl (by decide) (by decide) rfl ?_
  refine x_goto (tgt := 4) (pc := 33) C dX8_flownOf_33 (by decide) ?_
  exact x_sub (hK4 _ _ _ _ _ h) (xLe_s (xLe_s (xLe_s (xLe_s xLe_0))))
def DX8_flownOf_36 (l2 : Int32) (σ : Sg) : Option (Int32 × Sg) :=
  some (l2, σ)
theorem tX8_flownOf_36 {r : Int32} {σ' : Sg} (C : Cx E p s m args meth c RX8 cX8_flownOf 4) (hr : meth.sig.returnType = (some .int)) {l2 : Int32} {σ : Sg} (h : DX8_flownOf_36 l2 σ = some (r, σ')) : Y E p l e (rmA 2 0 0) s m args below meth c (some (.int r)) σ' 0 0 4 0 0 σ 36 [none, none, some (.int l2), none] [] := by
  unfold DX8_flownOf_36 at h
  refine x_iload_n (pc := 36) C dX8_flownOf_36 rfl rfl ?_
  cases h
  exact x_iret C hr dX8_flownOf_37
def DX8_flownOf_4 : Nat → Nat → Int32 → Int32 → Int32 → Sg → Option (Int32 × Sg)
  | 0, _, _, _, _, _ => none
  | n + 1, l0, l1, l2, l3, σ =>
    chk (ckO σ 6 l0) <|
    bnd (DX8_couponsOf l0 l1 σ) fun v1 σ2 =>
    if v1 ≤ l3 then
      DX8_flownOf_36 l2 σ2
    else
      chk (ckO σ2 6 l0) <|
      bnd (DX8_isFlown l0 l1 l3 σ2) fun v3 σ4 =>
      if v3 = 0 then
        DX8_flownOf_28 (DX8_flownOf_4 n) l0 l1 l3 l2 (0 : Int32) σ4
      else
        DX8_flownOf_28 (DX8_flownOf_4 n) l0 l1 l3 l2 (1 : Int32) σ4
theorem tX8_flownOf_4 {r : Int32} {σ' : Sg} (C : Cx E p s m args meth c RX8 cX8_flownOf 4) (hr : meth.sig.returnType = (some .int)) : ∀ (n : Nat) (l0 : Nat) (l1 : Int32) (l2 : Int32) (l3 : Int32) (σ : Sg) (h : DX8_flownOf_4 n l0 l1 l2 l3 σ = some (r, σ')), Y E p l e (rmA 2 0 0) s m args below meth c (some (.int r)) σ' 0 0 4 0 0 σ 4 [some (.ref (ad E l0)), some (.int l1), some (.int l2), some (.int l3)] [] := by
  intro n
  induction n with
  | zero => intro l0 l1 l2 l3 σ h; cases h
  | succ n ih =>
    intro l0 l1 l2 l3 σ h
    unfold DX8_flownOf_4 at h
    refine x_iload_n (pc := 4) C dX8_flownOf_4 rfl rfl ?_
    refine x_aload_n (pc := 5) C dX8_flownOf_5 rfl rfl ?_
    refine x_iload_n (pc := 6) C dX8_flownOf_6 rfl rfl ?_
    obtain ⟨k, h⟩ := chk_s h
    have k2 := k
    obtain ⟨v1, σ2, k, h⟩ := bnd_s h
    refine x_callV1 (pc := 7) C (mX8_couponsOf E l k) cl6 k2 cX8_301 nX8_couponsOf sX8_couponsOf rfl rfl (Nat.le_of_ble_eq_true rfl) ⟨Nat.le_of_ble_eq_true rfl, Nat.le_of_ble_eq_true rfl, Nat.le_of_ble_eq_true rfl, Nat.le_of_ble_eq_true rfl⟩ dX8_flownOf_7 ?_
    refine x_icmp_ge (pc := 10) (tgt := 36) C dX8_flownOf_10 (by decide) (fun q => ?_) (fun q => ?_)
    · rw [if_pos q] at h
      exact x_sub (tX8_flownOf_36 C hr h) (xLe_n (xLe_n (xLe_s (xLe_n xLe_0))))
    · rw [if_neg q] at h
      refine x_iload_n (pc := 13) C dX8_flownOf_13 rfl rfl ?_
      refine x_aload_n (pc := 14) C dX8_flownOf_14 rfl rfl ?_
      refine x_iload_n (pc := 15) C dX8_flownOf_15 rfl rfl ?_
      refine x_iload_n (pc := 16) C dX8_flownOf_16 rfl rfl ?_
      obtain ⟨k, h⟩ := chk_s h
      have k2 := k
      obtain ⟨v3, σ4, k, h⟩ := bnd_s h
      refine x_callV1 (pc := 17) C (mX8_isFlown E l k) cl6 k2 cX8_345 nX8_isFlown sX8_isFlown rfl rfl (Nat.le_of_ble_eq_true rfl) ⟨Nat.le_of_ble_eq_true rfl, Nat.le_of_ble_eq_true rfl, Nat.le_of_ble_eq_true rfl, Nat.le_of_ble_eq_true rfl⟩ dX8_flownOf_17 ?_
      refine x_if_eq (pc := 20) (tgt := 27) C dX8_flownOf_20 (by decide) (fun q => ?_) (fun q => ?_)
      · rw [if_pos q] at h
        refine x_iconst (v := 0) (pc := 27) C dX8_flownOf_27 (by decide) ?_
        exact x_sub (tX8_flownOf_28 C hr ih h) (xLe_s (xLe_s (xLe_n (xLe_s xLe_0))))
      · rw [if_neg q] at h
        refine x_iconst (v := 1) (pc := 23) C dX8_flownOf_23 (by decide) ?_
        refine x_goto (tgt := 28) (pc := 24) C dX8_flownOf_24 (by decide) ?_
        exact x_sub (tX8_flownOf_28 C hr ih h) (xLe_s (xLe_s (xLe_n (xLe_s xLe_0))))
def DX8_flownOf (l0 : Nat) (l1 : Int32) (σ : Sg) : Option (Int32 × Sg) :=
  DX8_flownOf_4 FU l0 l1 (0 : Int32) (0 : Int32) σ
theorem mX8_flownOf (E : Ev) (l : Launch) {l0 : Nat} {l1 : Int32} {σ : Sg} {r : Int32} {σ' : Sg} (h : DX8_flownOf l0 l1 σ = some (r, σ')) : Mt E l yX8_flownOf cX8_flownOf 4 (some .int) 2 0 0 [.ref (ad E l0), .int l1] σ (some (.int r)) σ' := by
  refine Mt.ofX (by decide) (Nat.le_of_ble_eq_true rfl) (L0 := [some (.ref (ad E l0)), some (.int l1), none, none]) (xEntN_ok [.ref (ad E l0), .int l1] 4) (fun p e s m args below meth c C hr hn => ?_)
  unfold DX8_flownOf at h
  refine x_iconst (v := 0) (pc := 0) C dX8_flownOf_0 (by decide) ?_
  refine x_istore_n (M := [some _, some _, some _, none]) (pc := 1) C dX8_flownOf_1 rfl (by decide) rfl ?_
  refine x_iconst (v := 0) (pc := 2) C dX8_flownOf_2 (by decide) ?_
  refine x_istore_n (M := [some _, some _, some _, some _]) (pc := 3) C dX8_flownOf_3 rfl (by decide) rfl ?_
  exact x_sub (tX8_flownOf_4 C hr FU _ _ _ _ _ h) (xLe_s (xLe_s (xLe_s (xLe_s xLe_0))))
def DX8_ticket_68 (l0 : Nat) (l1 : Int32) (l2 : Int32) (σ : Sg) : Option (Int32 × Sg) :=
  chk (ckO σ 6 l0) <|
  chk (ckV (gR σ l0 16)) <|
  chk (ckI σ (gR σ l0 16) (((4 : Int32) * l1) + l2)) <|
  some ((aI σ (gR σ l0 16) (((4 : Int32) * l1) + l2).toNatClampNeg), σ)
theorem tX8_ticket_68 {r : Int32} {σ' : Sg} (C : Cx E p s m args meth c RX8 cX8_ticket 5) (hr : meth.sig.returnType = (some .int)) {l0 : Nat} {l1 : Int32} {l2 : Int32} {σ : Sg} (h : DX8_ticket_68 l0 l1 l2 σ = some (r, σ')) : Y E p l e (rmA 3 0 0) s m args below meth c (some (.int r)) σ' 0 0 5 0 0 σ 68 [some (.ref (ad E l0)), some (.int l1), some (.int l2), none, none] [] := by
  unfold DX8_ticket_68 at h
  refine x_aload_n (pc := 68) C dX8_ticket_68 rfl rfl ?_
  obtain ⟨k, h⟩ := chk_s h
  have k2 := k
  obtain ⟨k, h⟩ := chk_s h
  refine x_getR (pc := 69) C fX8_25 rfl k2 k dX8_ticket_69 ?_
  refine x_iconst (v := 4) (pc := 72) C dX8_ticket_72 (by decide) ?_
  refine x_iload_n (pc := 73) C dX8_ticket_73 rfl rfl ?_
  refine x_imul (pc := 74) C dX8_ticket_74 ?_
  refine x_iload_n (pc := 75) C dX8_ticket_75 rfl rfl ?_
  refine x_iadd (pc := 76) C dX8_ticket_76 ?_
  obtain ⟨k, h⟩ := chk_s h
  refine x_iald (pc := 77) C k dX8_ticket_77 ?_
  cases h
  exact x_iret C hr dX8_ticket_78
def DX8_ticket_136 (l3 : Int32) (σ : Sg) : Option (Int32 × Sg) :=
  some (l3, σ)
theorem tX8_ticket_136 {r : Int32} {σ' : Sg} (C : Cx E p s m args meth c RX8 cX8_ticket 5) (hr : meth.sig.returnType = (some .int)) {l3 : Int32} {σ : Sg} (h : DX8_ticket_136 l3 σ = some (r, σ')) : Y E p l e (rmA 3 0 0) s m args below meth c (some (.int r)) σ' 0 0 5 0 0 σ 136 [none, none, none, some (.int l3), none] [] := by
  unfold DX8_ticket_136 at h
  refine x_iload_n (pc := 136) C dX8_ticket_136 rfl rfl ?_
  cases h
  exact x_iret C hr dX8_ticket_137
def DX8_ticket_110 : Nat → Nat → Int32 → Int32 → Int32 → Sg → Option (Int32 × Sg)
  | 0, _, _, _, _, _ => none
  | n + 1, l0, l1, l3, l4, σ =>
    chk (ckO σ 6 l0) <|
    bnd (DX8_couponsOf l0 l1 σ) fun v1 σ2 =>
    if v1 ≤ l4 then
      DX8_ticket_136 l3 σ2
    else
      chk (ckO σ2 6 l0) <|
      bnd (DX8_couponMiles l0 l1 l4 σ2) fun v3 σ4 =>
      DX8_ticket_110 n l0 l1 (l3 + v3) (l4 + (1 : Int32)) σ4
theorem tX8_ticket_110 {r : Int32} {σ' : Sg} (C : Cx E p s m args meth c RX8 cX8_ticket 5) (hr : meth.sig.returnType = (some .int)) : ∀ (n : Nat) (l0 : Nat) (l1 : Int32) (l3 : Int32) (l4 : Int32) (σ : Sg) (h : DX8_ticket_110 n l0 l1 l3 l4 σ = some (r, σ')), Y E p l e (rmA 3 0 0) s m args below meth c (some (.int r)) σ' 0 0 5 0 0 σ 110 [some (.ref (ad E l0)), some (.int l1), none, some (.int l3), some (.int l4)] [] := by
  intro n
  induction n with
  | zero => intro l0 l1 l3 l4 σ h; cases h
  | succ n ih =>
    intro l0 l1 l3 l4 σ h
    unfold DX8_ticket_110 at h
    refine x_iload (pc := 110) C dX8_ticket_110 rfl ?_
    refine x_aload_n (pc := 112) C dX8_ticket_112 rfl rfl ?_
    refine x_iload_n (pc := 113) C dX8_ticket_113 rfl rfl ?_
    obtain ⟨k, h⟩ := chk_s h
    have k2 := k
    obtain ⟨v1, σ2, k, h⟩ := bnd_s h
    refine x_callV1 (pc := 114) C (mX8_couponsOf E l k) cl6 k2 cX8_301 nX8_couponsOf sX8_couponsOf rfl rfl (Nat.le_of_ble_eq_true rfl) ⟨Nat.le_of_ble_eq_true rfl, Nat.le_of_ble_eq_true rfl, Nat.le_of_ble_eq_true rfl, Nat.le_of_ble_eq_true rfl⟩ dX8_ticket_114 ?_
    refine x_icmp_ge (pc := 117) (tgt := 136) C dX8_ticket_117 (by decide) (fun q => ?_) (fun q => ?_)
    · rw [if_pos q] at h
      exact x_sub (tX8_ticket_136 C hr h) (xLe_n (xLe_n (xLe_n (xLe_s (xLe_n xLe_0)))))
    · rw [if_neg q] at h
      refine x_iload_n (pc := 120) C dX8_ticket_120 rfl rfl ?_
      refine x_aload_n (pc := 121) C dX8_ticket_121 rfl rfl ?_
      refine x_iload_n (pc := 122) C dX8_ticket_122 rfl rfl ?_
      refine x_iload (pc := 123) C dX8_ticket_123 rfl ?_
      obtain ⟨k, h⟩ := chk_s h
      have k2 := k
      obtain ⟨v3, σ4, k, h⟩ := bnd_s h
      refine x_callV1 (pc := 125) C (mX8_couponMiles E l k) cl6 k2 cX8_318 nX8_couponMiles sX8_couponMiles rfl rfl (Nat.le_of_ble_eq_true rfl) ⟨Nat.le_of_ble_eq_true rfl, Nat.le_of_ble_eq_true rfl, Nat.le_of_ble_eq_true rfl, Nat.le_of_ble_eq_true rfl⟩ dX8_ticket_125 ?_
      refine x_iadd (pc := 128) C dX8_ticket_128 ?_
      refine x_istore_n (M := [some _, some _, none, some _, some _]) (pc := 129) C dX8_ticket_129 rfl (by decide) rfl ?_
      refine x_iinc (v := 1) (M := [some _, some _, none, some _, some _]) (pc := 130) C dX8_ticket_130 rfl (by decide) (by decide) rfl ?_
      refine x_goto (tgt := 110) (pc := 133) C dX8_ticket_133 (by decide) ?_
      exact x_sub (ih _ _ _ _ _ h) (xLe_s (xLe_s (xLe_n (xLe_s (xLe_s xLe_0)))))
def DX8_ticket_176 (l3 : Int32) (σ : Sg) : Option (Int32 × Sg) :=
  some (l3, σ)
theorem tX8_ticket_176 {r : Int32} {σ' : Sg} (C : Cx E p s m args meth c RX8 cX8_ticket 5) (hr : meth.sig.returnType = (some .int)) {l3 : Int32} {σ : Sg} (h : DX8_ticket_176 l3 σ = some (r, σ')) : Y E p l e (rmA 3 0 0) s m args below meth c (some (.int r)) σ' 0 0 5 0 0 σ 176 [none, none, none, some (.int l3), none] [] := by
  unfold DX8_ticket_176 at h
  refine x_iload_n (pc := 176) C dX8_ticket_176 rfl rfl ?_
  cases h
  exact x_iret C hr dX8_ticket_177
def DX8_ticket_141 : Nat → Nat → Int32 → Int32 → Int32 → Sg → Option (Int32 × Sg)
  | 0, _, _, _, _, _ => none
  | n + 1, l0, l1, l3, l4, σ =>
    chk (ckO σ 6 l0) <|
    bnd (DX8_couponsOf l0 l1 σ) fun v1 σ2 =>
    if v1 ≤ l4 then
      DX8_ticket_176 l3 σ2
    else
      chk (ckO σ2 6 l0) <|
      chk (ckV (gR σ2 l0 20)) <|
      chk (ckI σ2 (gR σ2 l0 20) (((128 : Int32) + ((8 : Int32) * l1)) + l4)) <|
      DX8_ticket_141 n l0 l1 (l3 + (aI σ2 (gR σ2 l0 20) (((128 : Int32) + ((8 : Int32) * l1)) + l4).toNatClampNeg)) (l4 + (1 : Int32)) σ2
theorem tX8_ticket_141 {r : Int32} {σ' : Sg} (C : Cx E p s m args meth c RX8 cX8_ticket 5) (hr : meth.sig.returnType = (some .int)) : ∀ (n : Nat) (l0 : Nat) (l1 : Int32) (l3 : Int32) (l4 : Int32) (σ : Sg) (h : DX8_ticket_141 n l0 l1 l3 l4 σ = some (r, σ')), Y E p l e (rmA 3 0 0) s m args below meth c (some (.int r)) σ' 0 0 5 0 0 σ 141 [some (.ref (ad E l0)), some (.int l1), none, some (.int l3), some (.int l4)] [] := by
  intro n
  induction n with
  | zero => intro l0 l1 l3 l4 σ h; cases h
  | succ n ih =>
    intro l0 l1 l3 l4 σ h
    unfold DX8_ticket_141 at h
    refine x_iload (pc := 141) C dX8_ticket_141 rfl ?_
    refine x_aload_n (pc := 143) C dX8_ticket_143 rfl rfl ?_
    refine x_iload_n (pc := 144) C dX8_ticket_144 rfl rfl ?_
    obtain ⟨k, h⟩ := chk_s h
    have k2 := k
    obtain ⟨v1, σ2, k, h⟩ := bnd_s h
    refine x_callV1 (pc := 145) C (mX8_couponsOf E l k) cl6 k2 cX8_301 nX8_couponsOf sX8_couponsOf rfl rfl (Nat.le_of_ble_eq_true rfl) ⟨Nat.le_of_ble_eq_true rfl, Nat.le_of_ble_eq_true rfl, Nat.le_of_ble_eq_true rfl, Nat.le_of_ble_eq_true rfl⟩ dX8_ticket_145 ?_
    refine x_icmp_ge (pc := 148) (tgt := 176) C dX8_ticket_148 (by decide) (fun q => ?_) (fun q => ?_)
    · rw [if_pos q] at h
      exact x_sub (tX8_ticket_176 C hr h) (xLe_n (xLe_n (xLe_n (xLe_s (xLe_n xLe_0)))))
    · rw [if_neg q] at h
      refine x_iload_n (pc := 151) C dX8_ticket_151 rfl rfl ?_
      refine x_aload_n (pc := 152) C dX8_ticket_152 rfl rfl ?_
      obtain ⟨k, h⟩ := chk_s h
      have k2 := k
      obtain ⟨k, h⟩ := chk_s h
      refine x_getR (pc := 153) C fX8_37 rfl k2 k dX8_ticket_153 ?_
      refine x_sipush (v := 128) (pc := 156) C dX8_ticket_156 (by decide) ?_
      refine x_bipush (v := 8) (pc := 159) C dX8_ticket_159 (by decide) ?_
      refine x_iload_n (pc := 161) C dX8_ticket_161 rfl rfl ?_
      refine x_imul (pc := 162) C dX8_ticket_162 ?_
      refine x_iadd (pc := 163) C dX8_ticket_163 ?_
      refine x_iload (pc := 164) C dX8_ticket_164 rfl ?_
      refine x_iadd (pc := 166) C dX8_ticket_166 ?_
      obtain ⟨k, h⟩ := chk_s h
      refine x_iald (pc := 167) C k dX8_ticket_167 ?_
      refine x_iadd (pc := 168) C dX8_ticket_168 ?_
      refine x_istore_n (M := [some _, some _, none, some _, some _]) (pc := 169) C dX8_ticket_169 rfl (by decide) rfl ?_
      refine x_iinc (v := 1) (M := [some _, some _, none, some _, some _]) (pc := 170) C dX8_ticket_170 rfl (by decide) (by decide) rfl ?_
      refine x_goto (tgt := 141) (pc := 173) C dX8_ticket_173 (by decide) ?_
      exact x_sub (ih _ _ _ _ _ h) (xLe_s (xLe_s (xLe_n (xLe_s (xLe_s xLe_0)))))
def DX8_ticket (l0 : Nat) (l1 : Int32) (l2 : Int32) (σ : Sg) : Option (Int32 × Sg) :=
  chk (ckO σ 6 l0) <|
  wlet (pI σ l0 0 (0 : Int32)) fun σ1 =>
  chk (ckO σ1 6 l0) <|
  bnd (DX8_isTicket l0 l1 σ1) fun v2 σ3 =>
  if v2 = 0 then
    chk (ckO σ3 6 l0) <|
    wlet (pI σ3 l0 0 (1 : Int32)) fun σ4 =>
    some ((0 : Int32), σ4)
  else
    if l2 = 0 then
      DX8_ticket_68 l0 l1 l2 σ3
    else
      if l2 = 1 then
        DX8_ticket_68 l0 l1 l2 σ3
      else
        if l2 = 2 then
          DX8_ticket_68 l0 l1 l2 σ3
        else
          if l2 = 3 then
            chk (ckO σ3 6 l0) <|
            bnd (DX8_flownOf l0 l1 σ3) fun v5 σ6 =>
            some (v5, σ6)
          else
            if l2 = 4 then
              chk (ckO σ3 6 l0) <|
              chk (ckV (gR σ3 l0 16)) <|
              chk (ckI σ3 (gR σ3 l0 16) (((4 : Int32) * l1) + (3 : Int32))) <|
              some ((aI σ3 (gR σ3 l0 16) (((4 : Int32) * l1) + (3 : Int32)).toNatClampNeg), σ3)
            else
              if l2 = 5 then
                chk (ckO σ3 6 l0) <|
                chk (ckV (gR σ3 l0 20)) <|
                chk (ckI σ3 (gR σ3 l0 20) ((234 : Int32) + l1)) <|
                some ((aI σ3 (gR σ3 l0 20) ((234 : Int32) + l1).toNatClampNeg), σ3)
              else
                if l2 = 6 then
                  DX8_ticket_110 FU l0 l1 (0 : Int32) (0 : Int32) σ3
                else
                  if l2 = 7 then
                    DX8_ticket_141 FU l0 l1 (0 : Int32) (0 : Int32) σ3
                  else
                    chk (ckO σ3 6 l0) <|
                    wlet (pI σ3 l0 0 (2 : Int32)) fun σ7 =>
                    some ((0 : Int32), σ7)
theorem mX8_ticket (E : Ev) (l : Launch) {l0 : Nat} {l1 : Int32} {l2 : Int32} {σ : Sg} {r : Int32} {σ' : Sg} (h : DX8_ticket l0 l1 l2 σ = some (r, σ')) : Mt E l yX8_ticket cX8_ticket 5 (some .int) 3 0 0 [.ref (ad E l0), .int l1, .int l2] σ (some (.int r)) σ' := by
  refine Mt.ofX (by decide) (Nat.le_of_ble_eq_true rfl) (L0 := [some (.ref (ad E l0)), some (.int l1), some (.int l2), none, none]) (xEntN_ok [.ref (ad E l0), .int l1, .int l2] 5) (fun p e s m args below meth c C hr hn => ?_)
  unfold DX8_ticket at h
  refine x_aload_n (pc := 0) C dX8_ticket_0 rfl rfl ?_
  refine x_iconst (v := 0) (pc := 1) C dX8_ticket_1 (by decide) ?_
  obtain ⟨k, h⟩ := chk_s h
  obtain ⟨σ1, e1, h⟩ := wlet_s h
  refine x_putI (pc := 2) C pX8_112 rfl k dX8_ticket_2 (x_eq e1 ?_)
  refine x_aload_n (pc := 5) C dX8_ticket_5 rfl rfl ?_
  refine x_iload_n (pc := 6) C dX8_ticket_6 rfl rfl ?_
  obtain ⟨k, h⟩ := chk_s h
  have k2 := k
  obtain ⟨v2, σ3, k, h⟩ := bnd_s h
  refine x_callV1 (pc := 7) C (mX8_isTicket E l k) cl6 k2 cX8_298 nX8_isTicket sX8_isTicket rfl rfl (Nat.le_of_ble_eq_true rfl) ⟨Nat.le_of_ble_eq_true rfl, Nat.le_of_ble_eq_true rfl, Nat.le_of_ble_eq_true rfl, Nat.le_of_ble_eq_true rfl⟩ dX8_ticket_7 ?_
  refine x_if_ne (pc := 10) (tgt := 20) C dX8_ticket_10 (by decide) (fun q => ?_) (fun q => ?_)
  · rw [if_pos q] at h
    refine x_aload_n (pc := 13) C dX8_ticket_13 rfl rfl ?_
    refine x_iconst (v := 1) (pc := 14) C dX8_ticket_14 (by decide) ?_
    obtain ⟨k, h⟩ := chk_s h
    obtain ⟨σ4, e1, h⟩ := wlet_s h
    refine x_putI (pc := 15) C pX8_112 rfl k dX8_ticket_15 (x_eq e1 ?_)
    refine x_iconst (v := 0) (pc := 18) C dX8_ticket_18 (by decide) ?_
    cases h
    exact x_iret C hr dX8_ticket_19
  · rw [if_neg q] at h
    refine x_iconst (v := 0) (pc := 20) C dX8_ticket_20 (by decide) ?_
    refine x_istore_n (M := [some _, some _, some _, some _, none]) (pc := 21) C dX8_ticket_21 rfl (by decide) rfl ?_
    refine x_iload_n (pc := 22) C dX8_ticket_22 rfl rfl ?_
    refine br_em (c := l2 = 0) (fun q0 => ?_) (fun q0 => ?_)
    · rw [if_pos q0] at h
      refine x_switchIn (pc := 23) (tgt := 68) C dX8_ticket_23 (by rw [q0]; decide) (by rw [q0]; decide) (o := 45) (by rw [q0]; rfl) (by decide) ?_
      exact x_sub (tX8_ticket_68 C hr h) (xLe_s (xLe_s (xLe_s (xLe_n (xLe_n xLe_0)))))
    · rw [if_neg q0] at h
      refine br_em (c := l2 = 1) (fun q1 => ?_) (fun q1 => ?_)
      · rw [if_pos q1] at h
        refine x_switchIn (pc := 23) (tgt := 68) C dX8_ticket_23 (by rw [q1]; decide) (by rw [q1]; decide) (o := 45) (by rw [q1]; rfl) (by decide) ?_
        exact x_sub (tX8_ticket_68 C hr h) (xLe_s (xLe_s (xLe_s (xLe_n (xLe_n xLe_0)))))
      · rw [if_neg q1] at h
        refine br_em (c := l2 = 2) (fun q2 => ?_) (fun q2 => ?_)
        · rw [if_pos q2] at h
          refine x_switchIn (pc := 23) (tgt := 68) C dX8_ticket_23 (by rw [q2]; decide) (by rw [q2]; decide) (o := 45) (by rw [q2]; rfl) (by decide) ?_
          exact x_sub (tX8_ticket_68 C hr h) (xLe_s (xLe_s (xLe_s (xLe_n (xLe_n xLe_0)))))
        · rw [if_neg q2] at h
          refine br_em (c := l2 = 3) (fun q3 => ?_) (fun q3 => ?_)
          · rw [if_pos q3] at h
            refine x_switchIn (pc := 23) (tgt := 79) C dX8_ticket_23 (by rw [q3]; decide) (by rw [q3]; decide) (o := 56) (by rw [q3]; rfl) (by decide) ?_
            refine x_aload_n (pc := 79) C dX8_ticket_79 rfl rfl ?_
            refine x_iload_n (pc := 80) C dX8_ticket_80 rfl rfl ?_
            obtain ⟨k, h⟩ := chk_s h
            have k2 := k
            obtain ⟨v5, σ6, k, h⟩ := bnd_s h
            refine x_callV1 (pc := 81) C (mX8_flownOf E l k) cl6 k2 cX8_390 nX8_flownOf sX8_flownOf rfl rfl (Nat.le_of_ble_eq_true rfl) ⟨Nat.le_of_ble_eq_true rfl, Nat.le_of_ble_eq_true rfl, Nat.le_of_ble_eq_true rfl, Nat.le_of_ble_eq_true rfl⟩ dX8_ticket_81 ?_
            cases h
            exact x_iret C hr dX8_ticket_84
          · rw [if_neg q3] at h
            refine br_em (c := l2 = 4) (fun q4 => ?_) (fun q4 => ?_)
            · rw [if_pos q4] at h
              refine x_switchIn (pc := 23) (tgt := 85) C dX8_ticket_23 (by rw [q4]; decide) (by rw [q4]; decide) (o := 62) (by rw [q4]; rfl) (by decide) ?_
              refine x_aload_n (pc := 85) C dX8_ticket_85 rfl rfl ?_
              obtain ⟨k, h⟩ := chk_s h
              have k2 := k
              obtain ⟨k, h⟩ := chk_s h
              refine x_getR (pc := 86) C fX8_25 rfl k2 k dX8_ticket_86 ?_
              refine x_iconst (v := 4) (pc := 89) C dX8_ticket_89 (by decide) ?_
              refine x_iload_n (pc := 90) C dX8_ticket_90 rfl rfl ?_
              refine x_imul (pc := 91) C dX8_ticket_91 ?_
              refine x_iconst (v := 3) (pc := 92) C dX8_ticket_92 (by decide) ?_
              refine x_iadd (pc := 93) C dX8_ticket_93 ?_
              obtain ⟨k, h⟩ := chk_s h
              refine x_iald (pc := 94) C k dX8_ticket_94 ?_
              cases h
              exact x_iret C hr dX8_ticket_95
            · rw [if_neg q4] at h
              refine br_em (c := l2 = 5) (fun q5 => ?_) (fun q5 => ?_)
              · rw [if_pos q5] at h
                refine x_switchIn (pc := 23) (tgt := 96) C dX8_ticket_23 (by rw [q5]; decide) (by rw [q5]; decide) (o := 73) (by rw [q5]; rfl) (by decide) ?_
                refine x_aload_n (pc := 96) C dX8_ticket_96 rfl rfl ?_
                obtain ⟨k, h⟩ := chk_s h
                have k2 := k
                obtain ⟨k, h⟩ := chk_s h
                refine x_getR (pc := 97) C fX8_37 rfl k2 k dX8_ticket_97 ?_
                refine x_sipush (v := 234) (pc := 100) C dX8_ticket_100 (by decide) ?_
                refine x_iload_n (pc := 103) C dX8_ticket_103 rfl rfl ?_
                refine x_iadd (pc := 104) C dX8_ticket_104 ?_
                obtain ⟨k, h⟩ := chk_s h
                refine x_iald (pc := 105) C k dX8_ticket_105 ?_
                cases h
                exact x_iret C hr dX8_ticket_106
              · rw [if_neg q5] at h
                refine br_em (c := l2 = 6) (fun q6 => ?_) (fun q6 => ?_)
                · rw [if_pos q6] at h
                  refine x_switchIn (pc := 23) (tgt := 107) C dX8_ticket_23 (by rw [q6]; decide) (by rw [q6]; decide) (o := 84) (by rw [q6]; rfl) (by decide) ?_
                  refine x_iconst (v := 0) (pc := 107) C dX8_ticket_107 (by decide) ?_
                  refine x_istore (M := [some _, some _, some _, some _, some _]) (pc := 108) C dX8_ticket_108 (by decide) rfl ?_
                  exact x_sub (tX8_ticket_110 C hr FU _ _ _ _ _ h) (xLe_s (xLe_s (xLe_n (xLe_s (xLe_s xLe_0)))))
                · rw [if_neg q6] at h
                  refine br_em (c := l2 = 7) (fun q7 => ?_) (fun q7 => ?_)
                  · rw [if_pos q7] at h
                    refine x_switchIn (pc := 23) (tgt := 138) C dX8_ticket_23 (by rw [q7]; decide) (by rw [q7]; decide) (o := 115) (by rw [q7]; rfl) (by decide) ?_
                    refine x_iconst (v := 0) (pc := 138) C dX8_ticket_138 (by decide) ?_
                    refine x_istore (M := [some _, some _, some _, some _, some _]) (pc := 139) C dX8_ticket_139 (by decide) rfl ?_
                    exact x_sub (tX8_ticket_141 C hr FU _ _ _ _ _ h) (xLe_s (xLe_s (xLe_n (xLe_s (xLe_s xLe_0)))))
                  · rw [if_neg q7] at h
                    have eq0 := sw_ne (k := 0) q0 (by decide)
                    have eq1 := sw_ne (k := 1) q1 (by decide)
                    have eq2 := sw_ne (k := 2) q2 (by decide)
                    have eq3 := sw_ne (k := 3) q3 (by decide)
                    have eq4 := sw_ne (k := 4) q4 (by decide)
                    have eq5 := sw_ne (k := 5) q5 (by decide)
                    have eq6 := sw_ne (k := 6) q6 (by decide)
                    have eq7 := sw_ne (k := 7) q7 (by decide)
                    refine x_switchOut (pc := 23) (tgt := 178) C dX8_ticket_23 (by omega) (by decide) ?_
                    refine x_aload_n (pc := 178) C dX8_ticket_178 rfl rfl ?_
                    refine x_iconst (v := 2) (pc := 179) C dX8_ticket_179 (by decide) ?_
                    obtain ⟨k, h⟩ := chk_s h
                    obtain ⟨σ7, e1, h⟩ := wlet_s h
                    refine x_putI (pc := 180) C pX8_112 rfl k dX8_ticket_180 (x_eq e1 ?_)
                    refine x_iconst (v := 0) (pc := 183) C dX8_ticket_183 (by decide) ?_
                    cases h
                    exact x_iret C hr dX8_ticket_184
def DX8_coupon_134 (s0 : Int32) (σ : Sg) : Option (Int32 × Sg) :=
  some (s0, σ)
theorem tX8_coupon_134 {r : Int32} {σ' : Sg} (C : Cx E p s m args meth c RX8 cX8_coupon 4) (hr : meth.sig.returnType = (some .int)) {s0 : Int32} {σ : Sg} (h : DX8_coupon_134 s0 σ = some (r, σ')) : Y E p l e (rmA 7 0 0) s m args below meth c (some (.int r)) σ' 0 0 4 0 0 σ 134 [none, none, none, none] [.int s0] := by
  unfold DX8_coupon_134 at h
  cases h
  exact x_iret C hr dX8_coupon_134
def DX8_coupon (l0 : Nat) (l1 : Int32) (l2 : Int32) (l3 : Int32) (σ : Sg) : Option (Int32 × Sg) :=
  chk (ckO σ 6 l0) <|
  wlet (pI σ l0 0 (0 : Int32)) fun σ1 =>
  chk (ckO σ1 6 l0) <|
  bnd (DX8_isCoupon l0 l1 l2 σ1) fun v2 σ3 =>
  if v2 = 0 then
    some ((-1 : Int32), σ3)
  else
    if l3 = 0 then
      chk (ckO σ3 6 l0) <|
      bnd (DX8_carrierOf l0 l1 l2 σ3) fun v4 σ5 =>
      some (v4, σ5)
    else
      if l3 = 1 then
        chk (ckO σ3 6 l0) <|
        chk (ckV (gR σ3 l0 17)) <|
        chk (ckI σ3 (gR σ3 l0 17) (((8 : Int32) * l1) + l2)) <|
        some ((aI σ3 (gR σ3 l0 17) (((8 : Int32) * l1) + l2).toNatClampNeg), σ3)
      else
        if l3 = 2 then
          chk (ckO σ3 6 l0) <|
          chk (ckV (gR σ3 l0 18)) <|
          chk (ckI σ3 (gR σ3 l0 18) (((8 : Int32) * l1) + l2)) <|
          some ((aI σ3 (gR σ3 l0 18) (((8 : Int32) * l1) + l2).toNatClampNeg), σ3)
        else
          if l3 = 3 then
            chk (ckO σ3 6 l0) <|
            bnd (DX8_couponMiles l0 l1 l2 σ3) fun v6 σ7 =>
            some (v6, σ7)
          else
            if l3 = 4 then
              chk (ckO σ3 6 l0) <|
              chk (ckV (gR σ3 l0 16)) <|
              chk (ckI σ3 (gR σ3 l0 16) (((4 : Int32) * l1) + (1 : Int32))) <|
              chk (ckO σ3 6 l0) <|
              bnd (DX8_factorOf l0 l1 l2 (aI σ3 (gR σ3 l0 16) (((4 : Int32) * l1) + (1 : Int32)).toNatClampNeg) σ3) fun v8 σ9 =>
              some (v8.toInt32, σ9)
            else
              if l3 = 5 then
                chk (ckO σ3 6 l0) <|
                bnd (DX8_isFlown l0 l1 l2 σ3) fun v10 σ11 =>
                if v10 = 0 then
                  DX8_coupon_134 (0 : Int32) σ11
                else
                  DX8_coupon_134 (1 : Int32) σ11
              else
                if l3 = 6 then
                  chk (ckO σ3 6 l0) <|
                  bnd (DX8_prorates_ l0 l1 σ3) fun _ σ12 =>
                  chk (ckO σ12 6 l0) <|
                  chk (ckV (gR σ12 l0 45)) <|
                  chk (ckI σ12 (gR σ12 l0 45) l2) <|
                  some ((aI σ12 (gR σ12 l0 45) l2.toNatClampNeg), σ12)
                else
                  if l3 = 7 then
                    chk (ckO σ3 6 l0) <|
                    bnd (DX8_holding l0 l1 l2 (-2 : Int32) σ3) fun v13 σ14 =>
                    some (v13, σ14)
                  else
                    some ((-1 : Int32), σ3)
theorem mX8_coupon (E : Ev) (l : Launch) {l0 : Nat} {l1 : Int32} {l2 : Int32} {l3 : Int32} {σ : Sg} {r : Int32} {σ' : Sg} (h : DX8_coupon l0 l1 l2 l3 σ = some (r, σ')) : Mt E l yX8_coupon cX8_coupon 4 (some .int) 7 0 0 [.ref (ad E l0), .int l1, .int l2, .int l3] σ (some (.int r)) σ' := by
  refine Mt.ofX (by decide) (Nat.le_of_ble_eq_true rfl) (L0 := [some (.ref (ad E l0)), some (.int l1), some (.int l2), some (.int l3)]) (xEntN_ok [.ref (ad E l0), .int l1, .int l2, .int l3] 4) (fun p e s m args below meth c C hr hn => ?_)
  unfold DX8_coupon at h
  refine x_aload_n (pc := 0) C dX8_coupon_0 rfl rfl ?_
  refine x_iconst (v := 0) (pc := 1) C dX8_coupon_1 (by decide) ?_
  obtain ⟨k, h⟩ := chk_s h
  obtain ⟨σ1, e1, h⟩ := wlet_s h
  refine x_putI (pc := 2) C pX8_112 rfl k dX8_coupon_2 (x_eq e1 ?_)
  refine x_aload_n (pc := 5) C dX8_coupon_5 rfl rfl ?_
  refine x_iload_n (pc := 6) C dX8_coupon_6 rfl rfl ?_
  refine x_iload_n (pc := 7) C dX8_coupon_7 rfl rfl ?_
  obtain ⟨k, h⟩ := chk_s h
  have k2 := k
  obtain ⟨v2, σ3, k, h⟩ := bnd_s h
  refine x_callV1 (pc := 8) C (mX8_isCoupon E l k) cl6 k2 cX8_393 nX8_isCoupon sX8_isCoupon rfl rfl (Nat.le_of_ble_eq_true rfl) ⟨Nat.le_of_ble_eq_true rfl, Nat.le_of_ble_eq_true rfl, Nat.le_of_ble_eq_true rfl, Nat.le_of_ble_eq_true rfl⟩ dX8_coupon_8 ?_
  refine x_if_ne (pc := 11) (tgt := 16) C dX8_coupon_11 (by decide) (fun q => ?_) (fun q => ?_)
  · rw [if_pos q] at h
    refine x_iconst (v := -1) (pc := 14) C dX8_coupon_14 (by decide) ?_
    cases h
    exact x_iret C hr dX8_coupon_15
  · rw [if_neg q] at h
    refine x_iload_n (pc := 16) C dX8_coupon_16 rfl rfl ?_
    refine br_em (c := l3 = 0) (fun q0 => ?_) (fun q0 => ?_)
    · rw [if_pos q0] at h
      refine x_switchIn (pc := 17) (tgt := 64) C dX8_coupon_17 (by rw [q0]; decide) (by rw [q0]; decide) (o := 47) (by rw [q0]; rfl) (by decide) ?_
      refine x_aload_n (pc := 64) C dX8_coupon_64 rfl rfl ?_
      refine x_iload_n (pc := 65) C dX8_coupon_65 rfl rfl ?_
      refine x_iload_n (pc := 66) C dX8_coupon_66 rfl rfl ?_
      obtain ⟨k, h⟩ := chk_s h
      have k2 := k
      obtain ⟨v4, σ5, k, h⟩ := bnd_s h
      refine x_callV1 (pc := 67) C (mX8_carrierOf E l k) cl6 k2 cX8_321 nX8_carrierOf sX8_carrierOf rfl rfl (Nat.le_of_ble_eq_true rfl) ⟨Nat.le_of_ble_eq_true rfl, Nat.le_of_ble_eq_true rfl, Nat.le_of_ble_eq_true rfl, Nat.le_of_ble_eq_true rfl⟩ dX8_coupon_67 ?_
      cases h
      exact x_iret C hr dX8_coupon_70
    · rw [if_neg q0] at h
      refine br_em (c := l3 = 1) (fun q1 => ?_) (fun q1 => ?_)
      · rw [if_pos q1] at h
        refine x_switchIn (pc := 17) (tgt := 71) C dX8_coupon_17 (by rw [q1]; decide) (by rw [q1]; decide) (o := 54) (by rw [q1]; rfl) (by decide) ?_
        refine x_aload_n (pc := 71) C dX8_coupon_71 rfl rfl ?_
        obtain ⟨k, h⟩ := chk_s h
        have k2 := k
        obtain ⟨k, h⟩ := chk_s h
        refine x_getR (pc := 72) C fX8_28 rfl k2 k dX8_coupon_72 ?_
        refine x_bipush (v := 8) (pc := 75) C dX8_coupon_75 (by decide) ?_
        refine x_iload_n (pc := 77) C dX8_coupon_77 rfl rfl ?_
        refine x_imul (pc := 78) C dX8_coupon_78 ?_
        refine x_iload_n (pc := 79) C dX8_coupon_79 rfl rfl ?_
        refine x_iadd (pc := 80) C dX8_coupon_80 ?_
        obtain ⟨k, h⟩ := chk_s h
        refine x_iald (pc := 81) C k dX8_coupon_81 ?_
        cases h
        exact x_iret C hr dX8_coupon_82
      · rw [if_neg q1] at h
        refine br_em (c := l3 = 2) (fun q2 => ?_) (fun q2 => ?_)
        · rw [if_pos q2] at h
          refine x_switchIn (pc := 17) (tgt := 83) C dX8_coupon_17 (by rw [q2]; decide) (by rw [q2]; decide) (o := 66) (by rw [q2]; rfl) (by decide) ?_
          refine x_aload_n (pc := 83) C dX8_coupon_83 rfl rfl ?_
          obtain ⟨k, h⟩ := chk_s h
          have k2 := k
          obtain ⟨k, h⟩ := chk_s h
          refine x_getR (pc := 84) C fX8_31 rfl k2 k dX8_coupon_84 ?_
          refine x_bipush (v := 8) (pc := 87) C dX8_coupon_87 (by decide) ?_
          refine x_iload_n (pc := 89) C dX8_coupon_89 rfl rfl ?_
          refine x_imul (pc := 90) C dX8_coupon_90 ?_
          refine x_iload_n (pc := 91) C dX8_coupon_91 rfl rfl ?_
          refine x_iadd (pc := 92) C dX8_coupon_92 ?_
          obtain ⟨k, h⟩ := chk_s h
          refine x_iald (pc := 93) C k dX8_coupon_93 ?_
          cases h
          exact x_iret C hr dX8_coupon_94
        · rw [if_neg q2] at h
          refine br_em (c := l3 = 3) (fun q3 => ?_) (fun q3 => ?_)
          · rw [if_pos q3] at h
            refine x_switchIn (pc := 17) (tgt := 95) C dX8_coupon_17 (by rw [q3]; decide) (by rw [q3]; decide) (o := 78) (by rw [q3]; rfl) (by decide) ?_
            refine x_aload_n (pc := 95) C dX8_coupon_95 rfl rfl ?_
            refine x_iload_n (pc := 96) C dX8_coupon_96 rfl rfl ?_
            refine x_iload_n (pc := 97) C dX8_coupon_97 rfl rfl ?_
            obtain ⟨k, h⟩ := chk_s h
            have k2 := k
            obtain ⟨v6, σ7, k, h⟩ := bnd_s h
            refine x_callV1 (pc := 98) C (mX8_couponMiles E l k) cl6 k2 cX8_318 nX8_couponMiles sX8_couponMiles rfl rfl (Nat.le_of_ble_eq_true rfl) ⟨Nat.le_of_ble_eq_true rfl, Nat.le_of_ble_eq_true rfl, Nat.le_of_ble_eq_true rfl, Nat.le_of_ble_eq_true rfl⟩ dX8_coupon_98 ?_
            cases h
            exact x_iret C hr dX8_coupon_101
          · rw [if_neg q3] at h
            refine br_em (c := l3 = 4) (fun q4 => ?_) (fun q4 => ?_)
            · rw [if_pos q4] at h
              refine x_switchIn (pc := 17) (tgt := 102) C dX8_coupon_17 (by rw [q4]; decide) (by rw [q4]; decide) (o := 85) (by rw [q4]; rfl) (by decide) ?_
              refine x_aload_n (pc := 102) C dX8_coupon_102 rfl rfl ?_
              refine x_iload_n (pc := 103) C dX8_coupon_103 rfl rfl ?_
              refine x_iload_n (pc := 104) C dX8_coupon_104 rfl rfl ?_
              refine x_aload_n (pc := 105) C dX8_coupon_105 rfl rfl ?_
              obtain ⟨k, h⟩ := chk_s h
              have k2 := k
              obtain ⟨k, h⟩ := chk_s h
              refine x_getR (pc := 106) C fX8_25 rfl k2 k dX8_coupon_106 ?_
              refine x_iconst (v := 4) (pc := 109) C dX8_coupon_109 (by decide) ?_
              refine x_iload_n (pc := 110) C dX8_coupon_110 rfl rfl ?_
              refine x_imul (pc := 111) C dX8_coupon_111 ?_
              refine x_iconst (v := 1) (pc := 112) C dX8_coupon_112 (by decide) ?_
              refine x_iadd (pc := 113) C dX8_coupon_113 ?_
              obtain ⟨k, h⟩ := chk_s h
              refine x_iald (pc := 114) C k dX8_coupon_114 ?_
              obtain ⟨k, h⟩ := chk_s h
              have k2 := k
              obtain ⟨v8, σ9, k, h⟩ := bnd_s h
              refine x_callV1 (pc := 115) C (mX8_factorOf E l k) cl6 k2 cX8_350 nX8_factorOf sX8_factorOf rfl rfl (Nat.le_of_ble_eq_true rfl) ⟨Nat.le_of_ble_eq_true rfl, Nat.le_of_ble_eq_true rfl, Nat.le_of_ble_eq_true rfl, Nat.le_of_ble_eq_true rfl⟩ dX8_coupon_115 ?_
              refine x_l2i (pc := 118) C dX8_coupon_118 ?_
              cases h
              exact x_iret C hr dX8_coupon_119
            · rw [if_neg q4] at h
              refine br_em (c := l3 = 5) (fun q5 => ?_) (fun q5 => ?_)
              · rw [if_pos q5] at h
                refine x_switchIn (pc := 17) (tgt := 120) C dX8_coupon_17 (by rw [q5]; decide) (by rw [q5]; decide) (o := 103) (by rw [q5]; rfl) (by decide) ?_
                refine x_aload_n (pc := 120) C dX8_coupon_120 rfl rfl ?_
                refine x_iload_n (pc := 121) C dX8_coupon_121 rfl rfl ?_
                refine x_iload_n (pc := 122) C dX8_coupon_122 rfl rfl ?_
                obtain ⟨k, h⟩ := chk_s h
                have k2 := k
                obtain ⟨v10, σ11, k, h⟩ := bnd_s h
                refine x_callV1 (pc := 123) C (mX8_isFlown E l k) cl6 k2 cX8_345 nX8_isFlown sX8_isFlown rfl rfl (Nat.le_of_ble_eq_true rfl) ⟨Nat.le_of_ble_eq_true rfl, Nat.le_of_ble_eq_true rfl, Nat.le_of_ble_eq_true rfl, Nat.le_of_ble_eq_true rfl⟩ dX8_coupon_123 ?_
                refine x_if_eq (pc := 126) (tgt := 133) C dX8_coupon_126 (by decide) (fun q => ?_) (fun q => ?_)
                · rw [if_pos q] at h
                  refine x_iconst (v := 0) (pc := 133) C dX8_coupon_133 (by decide) ?_
                  exact x_sub (tX8_coupon_134 C hr h) (xLe_n (xLe_n (xLe_n (xLe_n xLe_0))))
                · rw [if_neg q] at h
                  refine x_iconst (v := 1) (pc := 129) C dX8_coupon_129 (by decide) ?_
                  refine x_goto (tgt := 134) (pc := 130) C dX8_coupon_130 (by decide) ?_
                  exact x_sub (tX8_coupon_134 C hr h) (xLe_n (xLe_n (xLe_n (xLe_n xLe_0))))
              · rw [if_neg q5] at h
                refine br_em (c := l3 = 6) (fun q6 => ?_) (fun q6 => ?_)
                · rw [if_pos q6] at h
                  refine x_switchIn (pc := 17) (tgt := 135) C dX8_coupon_17 (by rw [q6]; decide) (by rw [q6]; decide) (o := 118) (by rw [q6]; rfl) (by decide) ?_
                  refine x_aload_n (pc := 135) C dX8_coupon_135 rfl rfl ?_
                  refine x_iload_n (pc := 136) C dX8_coupon_136 rfl rfl ?_
                  obtain ⟨k, h⟩ := chk_s h
                  have k2 := k
                  obtain ⟨u0, σ12, k, h⟩ := bnd_s h
                  refine x_callV0 (pc := 137) C (mX8_prorates_ E l k) cl6 k2 cX8_396 nX8_prorates_ sX8_prorates_ rfl rfl (Nat.le_of_ble_eq_true rfl) ⟨Nat.le_of_ble_eq_true rfl, Nat.le_of_ble_eq_true rfl, Nat.le_of_ble_eq_true rfl, Nat.le_of_ble_eq_true rfl⟩ dX8_coupon_137 ?_
                  refine x_aload_n (pc := 140) C dX8_coupon_140 rfl rfl ?_
                  obtain ⟨k, h⟩ := chk_s h
                  have k2 := k
                  obtain ⟨k, h⟩ := chk_s h
                  refine x_getR (pc := 141) C fX8_81 rfl k2 k dX8_coupon_141 ?_
                  refine x_iload_n (pc := 144) C dX8_coupon_144 rfl rfl ?_
                  obtain ⟨k, h⟩ := chk_s h
                  refine x_iald (pc := 145) C k dX8_coupon_145 ?_
                  cases h
                  exact x_iret C hr dX8_coupon_146
                · rw [if_neg q6] at h
                  refine br_em (c := l3 = 7) (fun q7 => ?_) (fun q7 => ?_)
                  · rw [if_pos q7] at h
                    refine x_switchIn (pc := 17) (tgt := 147) C dX8_coupon_17 (by rw [q7]; decide) (by rw [q7]; decide) (o := 130) (by rw [q7]; rfl) (by decide) ?_
                    refine x_aload_n (pc := 147) C dX8_coupon_147 rfl rfl ?_
                    refine x_iload_n (pc := 148) C dX8_coupon_148 rfl rfl ?_
                    refine x_iload_n (pc := 149) C dX8_coupon_149 rfl rfl ?_
                    refine x_bipush (v := -2) (pc := 150) C dX8_coupon_150 (by decide) ?_
                    obtain ⟨k, h⟩ := chk_s h
                    have k2 := k
                    obtain ⟨v13, σ14, k, h⟩ := bnd_s h
                    refine x_callV1 (pc := 152) C (mX8_holding E l k) cl6 k2 cX8_342 nX8_holding sX8_holding rfl rfl (Nat.le_of_ble_eq_true rfl) ⟨Nat.le_of_ble_eq_true rfl, Nat.le_of_ble_eq_true rfl, Nat.le_of_ble_eq_true rfl, Nat.le_of_ble_eq_true rfl⟩ dX8_coupon_152 ?_
                    cases h
                    exact x_iret C hr dX8_coupon_155
                  · rw [if_neg q7] at h
                    have eq0 := sw_ne (k := 0) q0 (by decide)
                    have eq1 := sw_ne (k := 1) q1 (by decide)
                    have eq2 := sw_ne (k := 2) q2 (by decide)
                    have eq3 := sw_ne (k := 3) q3 (by decide)
                    have eq4 := sw_ne (k := 4) q4 (by decide)
                    have eq5 := sw_ne (k := 5) q5 (by decide)
                    have eq6 := sw_ne (k := 6) q6 (by decide)
                    have eq7 := sw_ne (k := 7) q7 (by decide)
                    refine x_switchOut (pc := 17) (tgt := 156) C dX8_coupon_17 (by omega) (by decide) ?_
                    refine x_iconst (v := -1) (pc := 156) C dX8_coupon_156 (by decide) ?_
                    cases h
                    exact x_iret C hr dX8_coupon_157
def DX8_share (l0 : Nat) (l1 : Int32) (l2 : Int32) (σ : Sg) : Option (Int32 × Sg) :=
  chk (ckO σ 6 l0) <|
  wlet (pI σ l0 0 (0 : Int32)) fun σ1 =>
  chk (ckO σ1 6 l0) <|
  bnd (DX8_isCoupon l0 l1 l2 σ1) fun v2 σ3 =>
  if v2 = 0 then
    some ((-1 : Int32), σ3)
  else
    chk (ckO σ3 6 l0) <|
    bnd (DX8_prorates_ l0 l1 σ3) fun _ σ4 =>
    chk (ckO σ4 6 l0) <|
    chk (ckV (gR σ4 l0 51)) <|
    chk (ckI σ4 (gR σ4 l0 51) l2) <|
    some ((aI σ4 (gR σ4 l0 51) l2.toNatClampNeg), σ4)
theorem mX8_share (E : Ev) (l : Launch) {l0 : Nat} {l1 : Int32} {l2 : Int32} {σ : Sg} {r : Int32} {σ' : Sg} (h : DX8_share l0 l1 l2 σ = some (r, σ')) : Mt E l yX8_share cX8_share 3 (some .int) 7 0 0 [.ref (ad E l0), .int l1, .int l2] σ (some (.int r)) σ' := by
  refine Mt.ofX (by decide) (Nat.le_of_ble_eq_true rfl) (L0 := [some (.ref (ad E l0)), some (.int l1), some (.int l2)]) (xEntN_ok [.ref (ad E l0), .int l1, .int l2] 3) (fun p e s m args below meth c C hr hn => ?_)
  unfold DX8_share at h
  refine x_aload_n (pc := 0) C dX8_share_0 rfl rfl ?_
  refine x_iconst (v := 0) (pc := 1) C dX8_share_1 (by decide) ?_
  obtain ⟨k, h⟩ := chk_s h
  obtain ⟨σ1, e1, h⟩ := wlet_s h
  refine x_putI (pc := 2) C pX8_112 rfl k dX8_share_2 (x_eq e1 ?_)
  refine x_aload_n (pc := 5) C dX8_share_5 rfl rfl ?_
  refine x_iload_n (pc := 6) C dX8_share_6 rfl rfl ?_
  refine x_iload_n (pc := 7) C dX8_share_7 rfl rfl ?_
  obtain ⟨k, h⟩ := chk_s h
  have k2 := k
  obtain ⟨v2, σ3, k, h⟩ := bnd_s h
  refine x_callV1 (pc := 8) C (mX8_isCoupon E l k) cl6 k2 cX8_393 nX8_isCoupon sX8_isCoupon rfl rfl (Nat.le_of_ble_eq_true rfl) ⟨Nat.le_of_ble_eq_true rfl, Nat.le_of_ble_eq_true rfl, Nat.le_of_ble_eq_true rfl, Nat.le_of_ble_eq_true rfl⟩ dX8_share_8 ?_
  refine x_if_ne (pc := 11) (tgt := 16) C dX8_share_11 (by decide) (fun q => ?_) (fun q => ?_)
  · rw [if_pos q] at h
    refine x_iconst (v := -1) (pc := 14) C dX8_share_14 (by decide) ?_
    cases h
    exact x_iret C hr dX8_share_15
  · rw [if_neg q] at h
    refine x_aload_n (pc := 16) C dX8_share_16 rfl rfl ?_
    refine x_iload_n (pc := 17) C dX8_share_17 rfl rfl ?_
    obtain ⟨k, h⟩ := chk_s h
    have k2 := k
    obtain ⟨u0, σ4, k, h⟩ := bnd_s h
    refine x_callV0 (pc := 18) C (mX8_prorates_ E l k) cl6 k2 cX8_396 nX8_prorates_ sX8_prorates_ rfl rfl (Nat.le_of_ble_eq_true rfl) ⟨Nat.le_of_ble_eq_true rfl, Nat.le_of_ble_eq_true rfl, Nat.le_of_ble_eq_true rfl, Nat.le_of_ble_eq_true rfl⟩ dX8_share_18 ?_
    refine x_aload_n (pc := 21) C dX8_share_21 rfl rfl ?_
    obtain ⟨k, h⟩ := chk_s h
    have k2 := k
    obtain ⟨k, h⟩ := chk_s h
    refine x_getR (pc := 22) C fX8_88 rfl k2 k dX8_share_22 ?_
    refine x_iload_n (pc := 25) C dX8_share_25 rfl rfl ?_
    obtain ⟨k, h⟩ := chk_s h
    refine x_iald (pc := 26) C k dX8_share_26 ?_
    cases h
    exact x_iret C hr dX8_share_27
def DX8_carried_21 (σ : Sg) : Option (Int32 × Sg) :=
  some ((-1 : Int32), σ)
theorem tX8_carried_21 {r : Int32} {σ' : Sg} (C : Cx E p s m args meth c RX8 cX8_carried 5) (hr : meth.sig.returnType = (some .int)) {σ : Sg} (h : DX8_carried_21  σ = some (r, σ')) : Y E p l e (rmA 7 0 0) s m args below meth c (some (.int r)) σ' 0 0 5 0 0 σ 21 [none, none, none, none, none] [] := by
  unfold DX8_carried_21 at h
  refine x_iconst (v := -1) (pc := 21) C dX8_carried_21 (by decide) ?_
  cases h
  exact x_iret C hr dX8_carried_22
def DX8_carried_66 (K33 : Nat → Int32 → Int32 → Int32 → Int32 → Sg → Option (Int32 × Sg)) (l0 : Nat) (l1 : Int32) (l2 : Int32) (l4 : Int32) (s0 : Int32) (s1 : Int32) (σ : Sg) : Option (Int32 × Sg) :=
  K33 l0 l1 l2 (s0 + s1) (l4 + (1 : Int32)) σ
theorem tX8_carried_66 {r : Int32} {σ' : Sg} (C : Cx E p s m args meth c RX8 cX8_carried 5) (hr : meth.sig.returnType = (some .int)) {K33 : Nat → Int32 → Int32 → Int32 → Int32 → Sg → Option (Int32 × Sg)} (hK33 : ∀ (l0 : Nat) (l1 : Int32) (l2 : Int32) (l3 : Int32) (l4 : Int32) (σ : Sg), K33 l0 l1 l2 l3 l4 σ = some (r, σ') → Y E p l e (rmA 7 0 0) s m args below meth c (some (.int r)) σ' 0 0 5 0 0 σ 33 [some (.ref (ad E l0)), some (.int l1), some (.int l2), some (.int l3), some (.int l4)] []) {l0 : Nat} {l1 : Int32} {l2 : Int32} {l4 : Int32} {s0 : Int32} {s1 : Int32} {σ : Sg} (h : DX8_carried_66 K33 l0 l1 l2 l4 s0 s1 σ = some (r, σ')) : Y E p l e (rmA 7 0 0) s m args below meth c (some (.int r)) σ' 0 0 5 0 0 σ 66 [some (.ref (ad E l0)), some (.int l1), some (.int l2), none, some (.int l4)] [.int s1, .int s0] := by
  unfold DX8_carried_66 at h
  refine x_iadd (pc := 66) C dX8_carried_66 ?_
  refine x_istore_n (M := [some _, some _, some _, some _, some _]) (pc := 67) C dX8_carried_67 rfl (by decide) rfl ?_
  refine x_iinc (v := 1) (M := [some _, some _, some _, some _, some _]) (pc := 68) C dX8_carried_68 rfl (by decide) (by decide) rfl ?_
  refine x_goto (tgt := 33) (pc := 71) C dX8_carried_71 (by decide) ?_
  exact x_sub (hK33 _ _ _ _ _ _ h) (xLe_s (xLe_s (xLe_s (xLe_s (xLe_s xLe_0)))))
def DX8_carried_74 (l3 : Int32) (σ : Sg) : Option (Int32 × Sg) :=
  some (l3, σ)
theorem tX8_carried_74 {r : Int32} {σ' : Sg} (C : Cx E p s m args meth c RX8 cX8_carried 5) (hr : meth.sig.returnType = (some .int)) {l3 : Int32} {σ : Sg} (h : DX8_carried_74 l3 σ = some (r, σ')) : Y E p l e (rmA 7 0 0) s m args below meth c (some (.int r)) σ' 0 0 5 0 0 σ 74 [none, none, none, some (.int l3), none] [] := by
  unfold DX8_carried_74 at h
  refine x_iload_n (pc := 74) C dX8_carried_74 rfl rfl ?_
  cases h
  exact x_iret C hr dX8_carried_75
def DX8_carried_33 : Nat → Nat → Int32 → Int32 → Int32 → Int32 → Sg → Option (Int32 × Sg)
  | 0, _, _, _, _, _, _ => none
  | n + 1, l0, l1, l2, l3, l4, σ =>
    chk (ckO σ 6 l0) <|
    bnd (DX8_couponsOf l0 l1 σ) fun v1 σ2 =>
    if v1 ≤ l4 then
      DX8_carried_74 l3 σ2
    else
      chk (ckO σ2 6 l0) <|
      bnd (DX8_carrierOf l0 l1 l4 σ2) fun v3 σ4 =>
      if v3 = l2 then
        chk (ckO σ4 6 l0) <|
        chk (ckV (gR σ4 l0 51)) <|
        chk (ckI σ4 (gR σ4 l0 51) l4) <|
        DX8_carried_66 (DX8_carried_33 n) l0 l1 l2 l4 l3 (aI σ4 (gR σ4 l0 51) l4.toNatClampNeg) σ4
      else
        DX8_carried_66 (DX8_carried_33 n) l0 l1 l2 l4 l3 (0 : Int32) σ4
theorem tX8_carried_33 {r : Int32} {σ' : Sg} (C : Cx E p s m args meth c RX8 cX8_carried 5) (hr : meth.sig.returnType = (some .int)) : ∀ (n : Nat) (l0 : Nat) (l1 : Int32) (l2 : Int32) (l3 : Int32) (l4 : Int32) (σ : Sg) (h : DX8_carried_33 n l0 l1 l2 l3 l4 σ = some (r, σ')), Y E p l e (rmA 7 0 0) s m args below meth c (some (.int r)) σ' 0 0 5 0 0 σ 33 [some (.ref (ad E l0)), some (.int l1), some (.int l2), some (.int l3), some (.int l4)] [] := by
  intro n
  induction n with
  | zero => intro l0 l1 l2 l3 l4 σ h; cases h
  | succ n ih =>
    intro l0 l1 l2 l3 l4 σ h
    unfold DX8_carried_33 at h
    refine x_iload (pc := 33) C dX8_carried_33 rfl ?_
    refine x_aload_n (pc := 35) C dX8_carried_35 rfl rfl ?_
    refine x_iload_n (pc := 36) C dX8_carried_36 rfl rfl ?_
    obtain ⟨k, h⟩ := chk_s h
    have k2 := k
    obtain ⟨v1, σ2, k, h⟩ := bnd_s h
    refine x_callV1 (pc := 37) C (mX8_couponsOf E l k) cl6 k2 cX8_301 nX8_couponsOf sX8_couponsOf rfl rfl (Nat.le_of_ble_eq_true rfl) ⟨Nat.le_of_ble_eq_true rfl, Nat.le_of_ble_eq_true rfl, Nat.le_of_ble_eq_true rfl, Nat.le_of_ble_eq_true rfl⟩ dX8_carried_37 ?_
    refine x_icmp_ge (pc := 40) (tgt := 74) C dX8_carried_40 (by decide) (fun q => ?_) (fun q => ?_)
    · rw [if_pos q] at h
      exact x_sub (tX8_carried_74 C hr h) (xLe_n (xLe_n (xLe_n (xLe_s (xLe_n xLe_0)))))
    · rw [if_neg q] at h
      refine x_iload_n (pc := 43) C dX8_carried_43 rfl rfl ?_
      refine x_aload_n (pc := 44) C dX8_carried_44 rfl rfl ?_
      refine x_iload_n (pc := 45) C dX8_carried_45 rfl rfl ?_
      refine x_iload (pc := 46) C dX8_carried_46 rfl ?_
      obtain ⟨k, h⟩ := chk_s h
      have k2 := k
      obtain ⟨v3, σ4, k, h⟩ := bnd_s h
      refine x_callV1 (pc := 48) C (mX8_carrierOf E l k) cl6 k2 cX8_321 nX8_carrierOf sX8_carrierOf rfl rfl (Nat.le_of_ble_eq_true rfl) ⟨Nat.le_of_ble_eq_true rfl, Nat.le_of_ble_eq_true rfl, Nat.le_of_ble_eq_true rfl, Nat.le_of_ble_eq_true rfl⟩ dX8_carried_48 ?_
      refine x_iload_n (pc := 51) C dX8_carried_51 rfl rfl ?_
      refine x_icmp_ne (pc := 52) (tgt := 65) C dX8_carried_52 (by decide) (fun q => ?_) (fun q => ?_)
      · rw [if_pos q] at h
        refine x_aload_n (pc := 55) C dX8_carried_55 rfl rfl ?_
        obtain ⟨k, h⟩ := chk_s h
        have k2 := k
        obtain ⟨k, h⟩ := chk_s h
        refine x_getR (pc := 56) C fX8_88 rfl k2 k dX8_carried_56 ?_
        refine x_iload (pc := 59) C dX8_carried_59 rfl ?_
        obtain ⟨k, h⟩ := chk_s h
        refine x_iald (pc := 61) C k dX8_carried_61 ?_
        refine x_goto (tgt := 66) (pc := 62) C dX8_carried_62 (by decide) ?_
        exact x_sub (tX8_carried_66 C hr ih h) (xLe_s (xLe_s (xLe_s (xLe_n (xLe_s xLe_0)))))
      · rw [if_neg q] at h
        refine x_iconst (v := 0) (pc := 65) C dX8_carried_65 (by decide) ?_
        exact x_sub (tX8_carried_66 C hr ih h) (xLe_s (xLe_s (xLe_s (xLe_n (xLe_s xLe_0)))))
def DX8_carried (l0 : Nat) (l1 : Int32) (l2 : Int32) (σ : Sg) : Option (Int32 × Sg) :=
  chk (ckO σ 6 l0) <|
  wlet (pI σ l0 0 (0 : Int32)) fun σ1 =>
  chk (ckO σ1 6 l0) <|
  bnd (DX8_isTicket l0 l1 σ1) fun v2 σ3 =>
  if v2 = 0 then
    DX8_carried_21 σ3
  else
    chk (ckO σ3 6 l0) <|
    bnd (DX8_isCarrier l0 l2 σ3) fun v4 σ5 =>
    if v4 = 0 then
      DX8_carried_21 σ5
    else
      chk (ckO σ5 6 l0) <|
      bnd (DX8_prorates_ l0 l1 σ5) fun _ σ6 =>
      DX8_carried_33 FU l0 l1 l2 (0 : Int32) (0 : Int32) σ6
theorem mX8_carried (E : Ev) (l : Launch) {l0 : Nat} {l1 : Int32} {l2 : Int32} {σ : Sg} {r : Int32} {σ' : Sg} (h : DX8_carried l0 l1 l2 σ = some (r, σ')) : Mt E l yX8_carried cX8_carried 5 (some .int) 7 0 0 [.ref (ad E l0), .int l1, .int l2] σ (some (.int r)) σ' := by
  refine Mt.ofX (by decide) (Nat.le_of_ble_eq_true rfl) (L0 := [some (.ref (ad E l0)), some (.int l1), some (.int l2), none, none]) (xEntN_ok [.ref (ad E l0), .int l1, .int l2] 5) (fun p e s m args below meth c C hr hn => ?_)
  unfold DX8_carried at h
  refine x_aload_n (pc := 0) C dX8_carried_0 rfl rfl ?_
  refine x_iconst (v := 0) (pc := 1) C dX8_carried_1 (by decide) ?_
  obtain ⟨k, h⟩ := chk_s h
  obtain ⟨σ1, e1, h⟩ := wlet_s h
  refine x_putI (pc := 2) C pX8_112 rfl k dX8_carried_2 (x_eq e1 ?_)
  refine x_aload_n (pc := 5) C dX8_carried_5 rfl rfl ?_
  refine x_iload_n (pc := 6) C dX8_carried_6 rfl rfl ?_
  obtain ⟨k, h⟩ := chk_s h
  have k2 := k
  obtain ⟨v2, σ3, k, h⟩ := bnd_s h
  refine x_callV1 (pc := 7) C (mX8_isTicket E l k) cl6 k2 cX8_298 nX8_isTicket sX8_isTicket rfl rfl (Nat.le_of_ble_eq_true rfl) ⟨Nat.le_of_ble_eq_true rfl, Nat.le_of_ble_eq_true rfl, Nat.le_of_ble_eq_true rfl, Nat.le_of_ble_eq_true rfl⟩ dX8_carried_7 ?_
  refine x_if_eq (pc := 10) (tgt := 21) C dX8_carried_10 (by decide) (fun q => ?_) (fun q => ?_)
  · rw [if_pos q] at h
    exact x_sub (tX8_carried_21 C hr h) (xLe_n (xLe_n (xLe_n (xLe_n (xLe_n xLe_0)))))
  · rw [if_neg q] at h
    refine x_aload_n (pc := 13) C dX8_carried_13 rfl rfl ?_
    refine x_iload_n (pc := 14) C dX8_carried_14 rfl rfl ?_
    obtain ⟨k, h⟩ := chk_s h
    have k2 := k
    obtain ⟨v4, σ5, k, h⟩ := bnd_s h
    refine x_callV1 (pc := 15) C (mX8_isCarrier E l k) cl6 k2 cX8_315 nX8_isCarrier sX8_isCarrier rfl rfl (Nat.le_of_ble_eq_true rfl) ⟨Nat.le_of_ble_eq_true rfl, Nat.le_of_ble_eq_true rfl, Nat.le_of_ble_eq_true rfl, Nat.le_of_ble_eq_true rfl⟩ dX8_carried_15 ?_
    refine x_if_ne (pc := 18) (tgt := 23) C dX8_carried_18 (by decide) (fun q => ?_) (fun q => ?_)
    · rw [if_pos q] at h
      exact x_sub (tX8_carried_21 C hr h) (xLe_n (xLe_n (xLe_n (xLe_n (xLe_n xLe_0)))))
    · rw [if_neg q] at h
      refine x_aload_n (pc := 23) C dX8_carried_23 rfl rfl ?_
      refine x_iload_n (pc := 24) C dX8_carried_24 rfl rfl ?_
      obtain ⟨k, h⟩ := chk_s h
      have k2 := k
      obtain ⟨u0, σ6, k, h⟩ := bnd_s h
      refine x_callV0 (pc := 25) C (mX8_prorates_ E l k) cl6 k2 cX8_396 nX8_prorates_ sX8_prorates_ rfl rfl (Nat.le_of_ble_eq_true rfl) ⟨Nat.le_of_ble_eq_true rfl, Nat.le_of_ble_eq_true rfl, Nat.le_of_ble_eq_true rfl, Nat.le_of_ble_eq_true rfl⟩ dX8_carried_25 ?_
      refine x_iconst (v := 0) (pc := 28) C dX8_carried_28 (by decide) ?_
      refine x_istore_n (M := [some _, some _, some _, some _, none]) (pc := 29) C dX8_carried_29 rfl (by decide) rfl ?_
      refine x_iconst (v := 0) (pc := 30) C dX8_carried_30 (by decide) ?_
      refine x_istore (M := [some _, some _, some _, some _, some _]) (pc := 31) C dX8_carried_31 (by decide) rfl ?_
      exact x_sub (tX8_carried_33 C hr FU _ _ _ _ _ _ h) (xLe_s (xLe_s (xLe_s (xLe_s (xLe_s xLe_0)))))
def DX8_rounds (l0 : Nat) (l1 : Int32) (σ : Sg) : Option (Int32 × Sg) :=
  chk (ckO σ 6 l0) <|
  wlet (pI σ l0 0 (0 : Int32)) fun σ1 =>
  chk (ckO σ1 6 l0) <|
  bnd (DX8_isTicket l0 l1 σ1) fun v2 σ3 =>
  if v2 = 0 then
    some ((-1 : Int32), σ3)
  else
    chk (ckO σ3 6 l0) <|
    bnd (DX8_prorates_ l0 l1 σ3) fun _ σ4 =>
    chk (ckO σ4 6 l0) <|
    some ((gI σ4 l0 49), σ4)
theorem mX8_rounds (E : Ev) (l : Launch) {l0 : Nat} {l1 : Int32} {σ : Sg} {r : Int32} {σ' : Sg} (h : DX8_rounds l0 l1 σ = some (r, σ')) : Mt E l yX8_rounds cX8_rounds 2 (some .int) 7 0 0 [.ref (ad E l0), .int l1] σ (some (.int r)) σ' := by
  refine Mt.ofX (by decide) (Nat.le_of_ble_eq_true rfl) (L0 := [some (.ref (ad E l0)), some (.int l1)]) (xEntN_ok [.ref (ad E l0), .int l1] 2) (fun p e s m args below meth c C hr hn => ?_)
  unfold DX8_rounds at h
  refine x_aload_n (pc := 0) C dX8_rounds_0 rfl rfl ?_
  refine x_iconst (v := 0) (pc := 1) C dX8_rounds_1 (by decide) ?_
  obtain ⟨k, h⟩ := chk_s h
  obtain ⟨σ1, e1, h⟩ := wlet_s h
  refine x_putI (pc := 2) C pX8_112 rfl k dX8_rounds_2 (x_eq e1 ?_)
  refine x_aload_n (pc := 5) C dX8_rounds_5 rfl rfl ?_
  refine x_iload_n (pc := 6) C dX8_rounds_6 rfl rfl ?_
  obtain ⟨k, h⟩ := chk_s h
  have k2 := k
  obtain ⟨v2, σ3, k, h⟩ := bnd_s h
  refine x_callV1 (pc := 7) C (mX8_isTicket E l k) cl6 k2 cX8_298 nX8_isTicket sX8_isTicket rfl rfl (Nat.le_of_ble_eq_true rfl) ⟨Nat.le_of_ble_eq_true rfl, Nat.le_of_ble_eq_true rfl, Nat.le_of_ble_eq_true rfl, Nat.le_of_ble_eq_true rfl⟩ dX8_rounds_7 ?_
  refine x_if_ne (pc := 10) (tgt := 15) C dX8_rounds_10 (by decide) (fun q => ?_) (fun q => ?_)
  · rw [if_pos q] at h
    refine x_iconst (v := -1) (pc := 13) C dX8_rounds_13 (by decide) ?_
    cases h
    exact x_iret C hr dX8_rounds_14
  · rw [if_neg q] at h
    refine x_aload_n (pc := 15) C dX8_rounds_15 rfl rfl ?_
    refine x_iload_n (pc := 16) C dX8_rounds_16 rfl rfl ?_
    obtain ⟨k, h⟩ := chk_s h
    have k2 := k
    obtain ⟨u0, σ4, k, h⟩ := bnd_s h
    refine x_callV0 (pc := 17) C (mX8_prorates_ E l k) cl6 k2 cX8_396 nX8_prorates_ sX8_prorates_ rfl rfl (Nat.le_of_ble_eq_true rfl) ⟨Nat.le_of_ble_eq_true rfl, Nat.le_of_ble_eq_true rfl, Nat.le_of_ble_eq_true rfl, Nat.le_of_ble_eq_true rfl⟩ dX8_rounds_17 ?_
    refine x_aload_n (pc := 20) C dX8_rounds_20 rfl rfl ?_
    obtain ⟨k, h⟩ := chk_s h
    refine x_getI (pc := 21) C fX8_332 rfl k dX8_rounds_21 ?_
    cases h
    exact x_iret C hr dX8_rounds_24
def DX8_left (l0 : Nat) (l1 : Int32) (σ : Sg) : Option (Int32 × Sg) :=
  chk (ckO σ 6 l0) <|
  wlet (pI σ l0 0 (0 : Int32)) fun σ1 =>
  chk (ckO σ1 6 l0) <|
  bnd (DX8_isTicket l0 l1 σ1) fun v2 σ3 =>
  if v2 = 0 then
    some ((-1 : Int32), σ3)
  else
    chk (ckO σ3 6 l0) <|
    bnd (DX8_prorates_ l0 l1 σ3) fun _ σ4 =>
    chk (ckO σ4 6 l0) <|
    some ((gI σ4 l0 50), σ4)
theorem mX8_left (E : Ev) (l : Launch) {l0 : Nat} {l1 : Int32} {σ : Sg} {r : Int32} {σ' : Sg} (h : DX8_left l0 l1 σ = some (r, σ')) : Mt E l yX8_left cX8_left 2 (some .int) 7 0 0 [.ref (ad E l0), .int l1] σ (some (.int r)) σ' := by
  refine Mt.ofX (by decide) (Nat.le_of_ble_eq_true rfl) (L0 := [some (.ref (ad E l0)), some (.int l1)]) (xEntN_ok [.ref (ad E l0), .int l1] 2) (fun p e s m args below meth c C hr hn => ?_)
  unfold DX8_left at h
  refine x_aload_n (pc := 0) C dX8_left_0 rfl rfl ?_
  refine x_iconst (v := 0) (pc := 1) C dX8_left_1 (by decide) ?_
  obtain ⟨k, h⟩ := chk_s h
  obtain ⟨σ1, e1, h⟩ := wlet_s h
  refine x_putI (pc := 2) C pX8_112 rfl k dX8_left_2 (x_eq e1 ?_)
  refine x_aload_n (pc := 5) C dX8_left_5 rfl rfl ?_
  refine x_iload_n (pc := 6) C dX8_left_6 rfl rfl ?_
  obtain ⟨k, h⟩ := chk_s h
  have k2 := k
  obtain ⟨v2, σ3, k, h⟩ := bnd_s h
  refine x_callV1 (pc := 7) C (mX8_isTicket E l k) cl6 k2 cX8_298 nX8_isTicket sX8_isTicket rfl rfl (Nat.le_of_ble_eq_true rfl) ⟨Nat.le_of_ble_eq_true rfl, Nat.le_of_ble_eq_true rfl, Nat.le_of_ble_eq_true rfl, Nat.le_of_ble_eq_true rfl⟩ dX8_left_7 ?_
  refine x_if_ne (pc := 10) (tgt := 15) C dX8_left_10 (by decide) (fun q => ?_) (fun q => ?_)
  · rw [if_pos q] at h
    refine x_iconst (v := -1) (pc := 13) C dX8_left_13 (by decide) ?_
    cases h
    exact x_iret C hr dX8_left_14
  · rw [if_neg q] at h
    refine x_aload_n (pc := 15) C dX8_left_15 rfl rfl ?_
    refine x_iload_n (pc := 16) C dX8_left_16 rfl rfl ?_
    obtain ⟨k, h⟩ := chk_s h
    have k2 := k
    obtain ⟨u0, σ4, k, h⟩ := bnd_s h
    refine x_callV0 (pc := 17) C (mX8_prorates_ E l k) cl6 k2 cX8_396 nX8_prorates_ sX8_prorates_ rfl rfl (Nat.le_of_ble_eq_true rfl) ⟨Nat.le_of_ble_eq_true rfl, Nat.le_of_ble_eq_true rfl, Nat.le_of_ble_eq_true rfl, Nat.le_of_ble_eq_true rfl⟩ dX8_left_17 ?_
    refine x_aload_n (pc := 20) C dX8_left_20 rfl rfl ?_
    obtain ⟨k, h⟩ := chk_s h
    refine x_getI (pc := 21) C fX8_335 rfl k dX8_left_21 ?_
    cases h
    exact x_iret C hr dX8_left_24
def DX8_straight (l0 : Nat) (l1 : Int32) (l2 : Int32) (σ : Sg) : Option (Int32 × Sg) :=
  chk (ckO σ 6 l0) <|
  wlet (pI σ l0 0 (0 : Int32)) fun σ1 =>
  chk (ckO σ1 6 l0) <|
  bnd (DX8_isCoupon l0 l1 l2 σ1) fun v2 σ3 =>
  if v2 = 0 then
    some ((-1 : Int32), σ3)
  else
    chk (ckO σ3 6 l0) <|
    chk (ckV (gR σ3 l0 16)) <|
    chk (ckI σ3 (gR σ3 l0 16) (((4 : Int32) * l1) + (1 : Int32))) <|
    chk (ckO σ3 6 l0) <|
    bnd (DX8_prorates l0 l1 (aI σ3 (gR σ3 l0 16) (((4 : Int32) * l1) + (1 : Int32)).toNatClampNeg) (-2 : Int32) (1 : Int32) σ3) fun _ σ4 =>
    chk (ckO σ4 6 l0) <|
    chk (ckV (gR σ4 l0 51)) <|
    chk (ckI σ4 (gR σ4 l0 51) l2) <|
    some ((aI σ4 (gR σ4 l0 51) l2.toNatClampNeg), σ4)
theorem mX8_straight (E : Ev) (l : Launch) {l0 : Nat} {l1 : Int32} {l2 : Int32} {σ : Sg} {r : Int32} {σ' : Sg} (h : DX8_straight l0 l1 l2 σ = some (r, σ')) : Mt E l yX8_straight cX8_straight 3 (some .int) 6 0 0 [.ref (ad E l0), .int l1, .int l2] σ (some (.int r)) σ' := by
  refine Mt.ofX (by decide) (Nat.le_of_ble_eq_true rfl) (L0 := [some (.ref (ad E l0)), some (.int l1), some (.int l2)]) (xEntN_ok [.ref (ad E l0), .int l1, .int l2] 3) (fun p e s m args below meth c C hr hn => ?_)
  unfold DX8_straight at h
  refine x_aload_n (pc := 0) C dX8_straight_0 rfl rfl ?_
  refine x_iconst (v := 0) (pc := 1) C dX8_straight_1 (by decide) ?_
  obtain ⟨k, h⟩ := chk_s h
  obtain ⟨σ1, e1, h⟩ := wlet_s h
  refine x_putI (pc := 2) C pX8_112 rfl k dX8_straight_2 (x_eq e1 ?_)
  refine x_aload_n (pc := 5) C dX8_straight_5 rfl rfl ?_
  refine x_iload_n (pc := 6) C dX8_straight_6 rfl rfl ?_
  refine x_iload_n (pc := 7) C dX8_straight_7 rfl rfl ?_
  obtain ⟨k, h⟩ := chk_s h
  have k2 := k
  obtain ⟨v2, σ3, k, h⟩ := bnd_s h
  refine x_callV1 (pc := 8) C (mX8_isCoupon E l k) cl6 k2 cX8_393 nX8_isCoupon sX8_isCoupon rfl rfl (Nat.le_of_ble_eq_true rfl) ⟨Nat.le_of_ble_eq_true rfl, Nat.le_of_ble_eq_true rfl, Nat.le_of_ble_eq_true rfl, Nat.le_of_ble_eq_true rfl⟩ dX8_straight_8 ?_
  refine x_if_ne (pc := 11) (tgt := 16) C dX8_straight_11 (by decide) (fun q => ?_) (fun q => ?_)
  · rw [if_pos q] at h
    refine x_iconst (v := -1) (pc := 14) C dX8_straight_14 (by decide) ?_
    cases h
    exact x_iret C hr dX8_straight_15
  · rw [if_neg q] at h
    refine x_aload_n (pc := 16) C dX8_straight_16 rfl rfl ?_
    refine x_iload_n (pc := 17) C dX8_straight_17 rfl rfl ?_
    refine x_aload_n (pc := 18) C dX8_straight_18 rfl rfl ?_
    obtain ⟨k, h⟩ := chk_s h
    have k2 := k
    obtain ⟨k, h⟩ := chk_s h
    refine x_getR (pc := 19) C fX8_25 rfl k2 k dX8_straight_19 ?_
    refine x_iconst (v := 4) (pc := 22) C dX8_straight_22 (by decide) ?_
    refine x_iload_n (pc := 23) C dX8_straight_23 rfl rfl ?_
    refine x_imul (pc := 24) C dX8_straight_24 ?_
    refine x_iconst (v := 1) (pc := 25) C dX8_straight_25 (by decide) ?_
    refine x_iadd (pc := 26) C dX8_straight_26 ?_
    obtain ⟨k, h⟩ := chk_s h
    refine x_iald (pc := 27) C k dX8_straight_27 ?_
    refine x_bipush (v := -2) (pc := 28) C dX8_straight_28 (by decide) ?_
    refine x_iconst (v := 1) (pc := 30) C dX8_straight_30 (by decide) ?_
    obtain ⟨k, h⟩ := chk_s h
    have k2 := k
    obtain ⟨u0, σ4, k, h⟩ := bnd_s h
    refine x_callV0 (pc := 31) C (mX8_prorates E l k) cl6 k2 cX8_383 nX8_prorates sX8_prorates rfl rfl (Nat.le_of_ble_eq_true rfl) ⟨Nat.le_of_ble_eq_true rfl, Nat.le_of_ble_eq_true rfl, Nat.le_of_ble_eq_true rfl, Nat.le_of_ble_eq_true rfl⟩ dX8_straight_31 ?_
    refine x_aload_n (pc := 34) C dX8_straight_34 rfl rfl ?_
    obtain ⟨k, h⟩ := chk_s h
    have k2 := k
    obtain ⟨k, h⟩ := chk_s h
    refine x_getR (pc := 35) C fX8_88 rfl k2 k dX8_straight_35 ?_
    refine x_iload_n (pc := 38) C dX8_straight_38 rfl rfl ?_
    obtain ⟨k, h⟩ := chk_s h
    refine x_iald (pc := 39) C k dX8_straight_39 ?_
    cases h
    exact x_iret C hr dX8_straight_40
def DX8_other (l0 : Nat) (l1 : Int32) (l2 : Int32) (σ : Sg) : Option (Int32 × Sg) :=
  chk (ckO σ 6 l0) <|
  wlet (pI σ l0 0 (0 : Int32)) fun σ1 =>
  chk (ckO σ1 6 l0) <|
  bnd (DX8_isCoupon l0 l1 l2 σ1) fun v2 σ3 =>
  if v2 = 0 then
    some ((-1 : Int32), σ3)
  else
    chk (ckO σ3 6 l0) <|
    chk (ckV (gR σ3 l0 16)) <|
    chk (ckI σ3 (gR σ3 l0 16) (((4 : Int32) * l1) + (1 : Int32))) <|
    chk (ckO σ3 6 l0) <|
    bnd (DX8_prorates l0 l1 ((1 : Int32) - (aI σ3 (gR σ3 l0 16) (((4 : Int32) * l1) + (1 : Int32)).toNatClampNeg)) (-2 : Int32) (0 : Int32) σ3) fun _ σ4 =>
    chk (ckO σ4 6 l0) <|
    chk (ckV (gR σ4 l0 51)) <|
    chk (ckI σ4 (gR σ4 l0 51) l2) <|
    some ((aI σ4 (gR σ4 l0 51) l2.toNatClampNeg), σ4)
theorem mX8_other (E : Ev) (l : Launch) {l0 : Nat} {l1 : Int32} {l2 : Int32} {σ : Sg} {r : Int32} {σ' : Sg} (h : DX8_other l0 l1 l2 σ = some (r, σ')) : Mt E l yX8_other cX8_other 3 (some .int) 6 0 0 [.ref (ad E l0), .int l1, .int l2] σ (some (.int r)) σ' := by
  refine Mt.ofX (by decide) (Nat.le_of_ble_eq_true rfl) (L0 := [some (.ref (ad E l0)), some (.int l1), some (.int l2)]) (xEntN_ok [.ref (ad E l0), .int l1, .int l2] 3) (fun p e s m args below meth c C hr hn => ?_)
  unfold DX8_other at h
  refine x_aload_n (pc := 0) C dX8_other_0 rfl rfl ?_
  refine x_iconst (v := 0) (pc := 1) C dX8_other_1 (by decide) ?_
  obtain ⟨k, h⟩ := chk_s h
  obtain ⟨σ1, e1, h⟩ := wlet_s h
  refine x_putI (pc := 2) C pX8_112 rfl k dX8_other_2 (x_eq e1 ?_)
  refine x_aload_n (pc := 5) C dX8_other_5 rfl rfl ?_
  refine x_iload_n (pc := 6) C dX8_other_6 rfl rfl ?_
  refine x_iload_n (pc := 7) C dX8_other_7 rfl rfl ?_
  obtain ⟨k, h⟩ := chk_s h
  have k2 := k
  obtain ⟨v2, σ3, k, h⟩ := bnd_s h
  refine x_callV1 (pc := 8) C (mX8_isCoupon E l k) cl6 k2 cX8_393 nX8_isCoupon sX8_isCoupon rfl rfl (Nat.le_of_ble_eq_true rfl) ⟨Nat.le_of_ble_eq_true rfl, Nat.le_of_ble_eq_true rfl, Nat.le_of_ble_eq_true rfl, Nat.le_of_ble_eq_true rfl⟩ dX8_other_8 ?_
  refine x_if_ne (pc := 11) (tgt := 16) C dX8_other_11 (by decide) (fun q => ?_) (fun q => ?_)
  · rw [if_pos q] at h
    refine x_iconst (v := -1) (pc := 14) C dX8_other_14 (by decide) ?_
    cases h
    exact x_iret C hr dX8_other_15
  · rw [if_neg q] at h
    refine x_aload_n (pc := 16) C dX8_other_16 rfl rfl ?_
    refine x_iload_n (pc := 17) C dX8_other_17 rfl rfl ?_
    refine x_iconst (v := 1) (pc := 18) C dX8_other_18 (by decide) ?_
    refine x_aload_n (pc := 19) C dX8_other_19 rfl rfl ?_
    obtain ⟨k, h⟩ := chk_s h
    have k2 := k
    obtain ⟨k, h⟩ := chk_s h
    refine x_getR (pc := 20) C fX8_25 rfl k2 k dX8_other_20 ?_
    refine x_iconst (v := 4) (pc := 23) C dX8_other_23 (by decide) ?_
    refine x_iload_n (pc := 24) C dX8_other_24 rfl rfl ?_
    refine x_imul (pc := 25) C dX8_other_25 ?_
    refine x_iconst (v := 1) (pc := 26) C dX8_other_26 (by decide) ?_
    refine x_iadd (pc := 27) C dX8_other_27 ?_
    obtain ⟨k, h⟩ := chk_s h
    refine x_iald (pc := 28) C k dX8_other_28 ?_
    refine x_isub (pc := 29) C dX8_other_29 ?_
    refine x_bipush (v := -2) (pc := 30) C dX8_other_30 (by decide) ?_
    refine x_iconst (v := 0) (pc := 32) C dX8_other_32 (by decide) ?_
    obtain ⟨k, h⟩ := chk_s h
    have k2 := k
    obtain ⟨u0, σ4, k, h⟩ := bnd_s h
    refine x_callV0 (pc := 33) C (mX8_prorates E l k) cl6 k2 cX8_383 nX8_prorates sX8_prorates rfl rfl (Nat.le_of_ble_eq_true rfl) ⟨Nat.le_of_ble_eq_true rfl, Nat.le_of_ble_eq_true rfl, Nat.le_of_ble_eq_true rfl, Nat.le_of_ble_eq_true rfl⟩ dX8_other_33 ?_
    refine x_aload_n (pc := 36) C dX8_other_36 rfl rfl ?_
    obtain ⟨k, h⟩ := chk_s h
    have k2 := k
    obtain ⟨k, h⟩ := chk_s h
    refine x_getR (pc := 37) C fX8_88 rfl k2 k dX8_other_37 ?_
    refine x_iload_n (pc := 40) C dX8_other_40 rfl rfl ?_
    obtain ⟨k, h⟩ := chk_s h
    refine x_iald (pc := 41) C k dX8_other_41 ?_
    cases h
    exact x_iret C hr dX8_other_42
def DX8_without_22 (σ : Sg) : Option (Int32 × Sg) :=
  some ((-1 : Int32), σ)
theorem tX8_without_22 {r : Int32} {σ' : Sg} (C : Cx E p s m args meth c RX8 cX8_without 4) (hr : meth.sig.returnType = (some .int)) {σ : Sg} (h : DX8_without_22  σ = some (r, σ')) : Y E p l e (rmA 6 0 0) s m args below meth c (some (.int r)) σ' 0 0 4 0 0 σ 22 [none, none, none, none] [] := by
  unfold DX8_without_22 at h
  refine x_iconst (v := -1) (pc := 22) C dX8_without_22 (by decide) ?_
  cases h
  exact x_iret C hr dX8_without_23
def DX8_without (l0 : Nat) (l1 : Int32) (l2 : Int32) (l3 : Int32) (σ : Sg) : Option (Int32 × Sg) :=
  chk (ckO σ 6 l0) <|
  wlet (pI σ l0 0 (0 : Int32)) fun σ1 =>
  chk (ckO σ1 6 l0) <|
  bnd (DX8_isProviso l0 l1 σ1) fun v2 σ3 =>
  if v2 = 0 then
    DX8_without_22 σ3
  else
    chk (ckO σ3 6 l0) <|
    bnd (DX8_isCoupon l0 l2 l3 σ3) fun v4 σ5 =>
    if v4 = 0 then
      DX8_without_22 σ5
    else
      chk (ckO σ5 6 l0) <|
      chk (ckV (gR σ5 l0 16)) <|
      chk (ckI σ5 (gR σ5 l0 16) (((4 : Int32) * l2) + (1 : Int32))) <|
      chk (ckO σ5 6 l0) <|
      bnd (DX8_prorates l0 l2 (aI σ5 (gR σ5 l0 16) (((4 : Int32) * l2) + (1 : Int32)).toNatClampNeg) l1 (0 : Int32) σ5) fun _ σ6 =>
      chk (ckO σ6 6 l0) <|
      chk (ckV (gR σ6 l0 51)) <|
      chk (ckI σ6 (gR σ6 l0 51) l3) <|
      some ((aI σ6 (gR σ6 l0 51) l3.toNatClampNeg), σ6)
theorem mX8_without (E : Ev) (l : Launch) {l0 : Nat} {l1 : Int32} {l2 : Int32} {l3 : Int32} {σ : Sg} {r : Int32} {σ' : Sg} (h : DX8_without l0 l1 l2 l3 σ = some (r, σ')) : Mt E l yX8_without cX8_without 4 (some .int) 6 0 0 [.ref (ad E l0), .int l1, .int l2, .int l3] σ (some (.int r)) σ' := by
  refine Mt.ofX (by decide) (Nat.le_of_ble_eq_true rfl) (L0 := [some (.ref (ad E l0)), some (.int l1), some (.int l2), some (.int l3)]) (xEntN_ok [.ref (ad E l0), .int l1, .int l2, .int l3] 4) (fun p e s m args below meth c C hr hn => ?_)
  unfold DX8_without at h
  refine x_aload_n (pc := 0) C dX8_without_0 rfl rfl ?_
  refine x_iconst (v := 0) (pc := 1) C dX8_without_1 (by decide) ?_
  obtain ⟨k, h⟩ := chk_s h
  obtain ⟨σ1, e1, h⟩ := wlet_s h
  refine x_putI (pc := 2) C pX8_112 rfl k dX8_without_2 (x_eq e1 ?_)
  refine x_aload_n (pc := 5) C dX8_without_5 rfl rfl ?_
  refine x_iload_n (pc := 6) C dX8_without_6 rfl rfl ?_
  obtain ⟨k, h⟩ := chk_s h
  have k2 := k
  obtain ⟨v2, σ3, k, h⟩ := bnd_s h
  refine x_callV1 (pc := 7) C (mX8_isProviso E l k) cl6 k2 cX8_387 nX8_isProviso sX8_isProviso rfl rfl (Nat.le_of_ble_eq_true rfl) ⟨Nat.le_of_ble_eq_true rfl, Nat.le_of_ble_eq_true rfl, Nat.le_of_ble_eq_true rfl, Nat.le_of_ble_eq_true rfl⟩ dX8_without_7 ?_
  refine x_if_eq (pc := 10) (tgt := 22) C dX8_without_10 (by decide) (fun q => ?_) (fun q => ?_)
  · rw [if_pos q] at h
    exact x_sub (tX8_without_22 C hr h) (xLe_n (xLe_n (xLe_n (xLe_n xLe_0))))
  · rw [if_neg q] at h
    refine x_aload_n (pc := 13) C dX8_without_13 rfl rfl ?_
    refine x_iload_n (pc := 14) C dX8_without_14 rfl rfl ?_
    refine x_iload_n (pc := 15) C dX8_without_15 rfl rfl ?_
    obtain ⟨k, h⟩ := chk_s h
    have k2 := k
    obtain ⟨v4, σ5, k, h⟩ := bnd_s h
    refine x_callV1 (pc := 16) C (mX8_isCoupon E l k) cl6 k2 cX8_393 nX8_isCoupon sX8_isCoupon rfl rfl (Nat.le_of_ble_eq_true rfl) ⟨Nat.le_of_ble_eq_true rfl, Nat.le_of_ble_eq_true rfl, Nat.le_of_ble_eq_true rfl, Nat.le_of_ble_eq_true rfl⟩ dX8_without_16 ?_
    refine x_if_ne (pc := 19) (tgt := 24) C dX8_without_19 (by decide) (fun q => ?_) (fun q => ?_)
    · rw [if_pos q] at h
      exact x_sub (tX8_without_22 C hr h) (xLe_n (xLe_n (xLe_n (xLe_n xLe_0))))
    · rw [if_neg q] at h
      refine x_aload_n (pc := 24) C dX8_without_24 rfl rfl ?_
      refine x_iload_n (pc := 25) C dX8_without_25 rfl rfl ?_
      refine x_aload_n (pc := 26) C dX8_without_26 rfl rfl ?_
      obtain ⟨k, h⟩ := chk_s h
      have k2 := k
      obtain ⟨k, h⟩ := chk_s h
      refine x_getR (pc := 27) C fX8_25 rfl k2 k dX8_without_27 ?_
      refine x_iconst (v := 4) (pc := 30) C dX8_without_30 (by decide) ?_
      refine x_iload_n (pc := 31) C dX8_without_31 rfl rfl ?_
      refine x_imul (pc := 32) C dX8_without_32 ?_
      refine x_iconst (v := 1) (pc := 33) C dX8_without_33 (by decide) ?_
      refine x_iadd (pc := 34) C dX8_without_34 ?_
      obtain ⟨k, h⟩ := chk_s h
      refine x_iald (pc := 35) C k dX8_without_35 ?_
      refine x_iload_n (pc := 36) C dX8_without_36 rfl rfl ?_
      refine x_iconst (v := 0) (pc := 37) C dX8_without_37 (by decide) ?_
      obtain ⟨k, h⟩ := chk_s h
      have k2 := k
      obtain ⟨u0, σ6, k, h⟩ := bnd_s h
      refine x_callV0 (pc := 38) C (mX8_prorates E l k) cl6 k2 cX8_383 nX8_prorates sX8_prorates rfl rfl (Nat.le_of_ble_eq_true rfl) ⟨Nat.le_of_ble_eq_true rfl, Nat.le_of_ble_eq_true rfl, Nat.le_of_ble_eq_true rfl, Nat.le_of_ble_eq_true rfl⟩ dX8_without_38 ?_
      refine x_aload_n (pc := 41) C dX8_without_41 rfl rfl ?_
      obtain ⟨k, h⟩ := chk_s h
      have k2 := k
      obtain ⟨k, h⟩ := chk_s h
      refine x_getR (pc := 42) C fX8_88 rfl k2 k dX8_without_42 ?_
      refine x_iload_n (pc := 45) C dX8_without_45 rfl rfl ?_
      obtain ⟨k, h⟩ := chk_s h
      refine x_iald (pc := 46) C k dX8_without_46 ?_
      cases h
      exact x_iret C hr dX8_without_47
def DX8_isOther__77 (σ : Sg) : Option (Int32 × Sg) :=
  chk (ck01 (1 : Int32)) <|
  some ((1 : Int32), σ)
theorem tX8_isOther__77 {r : Int32} {σ' : Sg} (C : Cx E p s m args meth c RX8 cX8_isOther_ 4) (hr : meth.sig.returnType = (some .boolean)) {σ : Sg} (h : DX8_isOther__77  σ = some (r, σ')) : Y E p l e (rmA 7 0 0) s m args below meth c (some (.int r)) σ' 0 0 4 0 0 σ 77 [none, none, none, none] [] := by
  unfold DX8_isOther__77 at h
  refine x_iconst (v := 1) (pc := 77) C dX8_isOther__77 (by decide) ?_
  obtain ⟨kz, h⟩ := chk_s h
  cases h
  exact x_zret C hr (nar_01 kz) dX8_isOther__78
def DX8_isOther__85 (σ : Sg) : Option (Int32 × Sg) :=
  chk (ck01 (0 : Int32)) <|
  some ((0 : Int32), σ)
theorem tX8_isOther__85 {r : Int32} {σ' : Sg} (C : Cx E p s m args meth c RX8 cX8_isOther_ 4) (hr : meth.sig.returnType = (some .boolean)) {σ : Sg} (h : DX8_isOther__85  σ = some (r, σ')) : Y E p l e (rmA 7 0 0) s m args below meth c (some (.int r)) σ' 0 0 4 0 0 σ 85 [none, none, none, none] [] := by
  unfold DX8_isOther__85 at h
  refine x_iconst (v := 0) (pc := 85) C dX8_isOther__85 (by decide) ?_
  obtain ⟨kz, h⟩ := chk_s h
  cases h
  exact x_zret C hr (nar_01 kz) dX8_isOther__86
def DX8_isOther__53 : Nat → Nat → Int32 → Int32 → Sg → Option (Int32 × Sg)
  | 0, _, _, _, _ => none
  | n + 1, l0, l2, l3, σ =>
    chk (ckO σ 6 l0) <|
    bnd (DX8_couponsOf l0 l2 σ) fun v1 σ2 =>
    if v1 ≤ l3 then
      DX8_isOther__85 σ2
    else
      chk (ckO σ2 6 l0) <|
      chk (ckV (gR σ2 l0 52)) <|
      chk (ckI σ2 (gR σ2 l0 52) l3) <|
      chk (ckO σ2 6 l0) <|
      chk (ckV (gR σ2 l0 51)) <|
      chk (ckI σ2 (gR σ2 l0 51) l3) <|
      if (aI σ2 (gR σ2 l0 52) l3.toNatClampNeg) = (aI σ2 (gR σ2 l0 51) l3.toNatClampNeg) then
        DX8_isOther__53 n l0 l2 (l3 + (1 : Int32)) σ2
      else
        DX8_isOther__77 σ2
theorem tX8_isOther__53 {r : Int32} {σ' : Sg} (C : Cx E p s m args meth c RX8 cX8_isOther_ 4) (hr : meth.sig.returnType = (some .boolean)) : ∀ (n : Nat) (l0 : Nat) (l2 : Int32) (l3 : Int32) (σ : Sg) (h : DX8_isOther__53 n l0 l2 l3 σ = some (r, σ')), Y E p l e (rmA 7 0 0) s m args below meth c (some (.int r)) σ' 0 0 4 0 0 σ 53 [some (.ref (ad E l0)), none, some (.int l2), some (.int l3)] [] := by
  intro n
  induction n with
  | zero => intro l0 l2 l3 σ h; cases h
  | succ n ih =>
    intro l0 l2 l3 σ h
    unfold DX8_isOther__53 at h
    refine x_iload_n (pc := 53) C dX8_isOther__53 rfl rfl ?_
    refine x_aload_n (pc := 54) C dX8_isOther__54 rfl rfl ?_
    refine x_iload_n (pc := 55) C dX8_isOther__55 rfl rfl ?_
    obtain ⟨k, h⟩ := chk_s h
    have k2 := k
    obtain ⟨v1, σ2, k, h⟩ := bnd_s h
    refine x_callV1 (pc := 56) C (mX8_couponsOf E l k) cl6 k2 cX8_301 nX8_couponsOf sX8_couponsOf rfl rfl (Nat.le_of_ble_eq_true rfl) ⟨Nat.le_of_ble_eq_true rfl, Nat.le_of_ble_eq_true rfl, Nat.le_of_ble_eq_true rfl, Nat.le_of_ble_eq_true rfl⟩ dX8_isOther__56 ?_
    refine x_icmp_ge (pc := 59) (tgt := 85) C dX8_isOther__59 (by decide) (fun q => ?_) (fun q => ?_)
    · rw [if_pos q] at h
      exact x_sub (tX8_isOther__85 C hr h) (xLe_n (xLe_n (xLe_n (xLe_n xLe_0))))
    · rw [if_neg q] at h
      refine x_aload_n (pc := 62) C dX8_isOther__62 rfl rfl ?_
      obtain ⟨k, h⟩ := chk_s h
      have k2 := k
      obtain ⟨k, h⟩ := chk_s h
      refine x_getR (pc := 63) C fX8_91 rfl k2 k dX8_isOther__63 ?_
      refine x_iload_n (pc := 66) C dX8_isOther__66 rfl rfl ?_
      obtain ⟨k, h⟩ := chk_s h
      refine x_iald (pc := 67) C k dX8_isOther__67 ?_
      refine x_aload_n (pc := 68) C dX8_isOther__68 rfl rfl ?_
      obtain ⟨k, h⟩ := chk_s h
      have k2 := k
      obtain ⟨k, h⟩ := chk_s h
      refine x_getR (pc := 69) C fX8_88 rfl k2 k dX8_isOther__69 ?_
      refine x_iload_n (pc := 72) C dX8_isOther__72 rfl rfl ?_
      obtain ⟨k, h⟩ := chk_s h
      refine x_iald (pc := 73) C k dX8_isOther__73 ?_
      refine x_icmp_eq (pc := 74) (tgt := 79) C dX8_isOther__74 (by decide) (fun q => ?_) (fun q => ?_)
      · rw [if_pos q] at h
        refine x_iinc (v := 1) (M := [some _, none, some _, some _]) (pc := 79) C dX8_isOther__79 rfl (by decide) (by decide) rfl ?_
        refine x_goto (tgt := 53) (pc := 82) C dX8_isOther__82 (by decide) ?_
        exact x_sub (ih _ _ _ _ h) (xLe_s (xLe_n (xLe_s (xLe_s xLe_0))))
      · rw [if_neg q] at h
        exact x_sub (tX8_isOther__77 C hr h) (xLe_n (xLe_n (xLe_n (xLe_n xLe_0))))
def DX8_isOther__34 (l0 : Nat) (l1 : Int32) (l2 : Int32) (σ : Sg) : Option (Int32 × Sg) :=
  chk (ckO σ 6 l0) <|
  chk (ckV (gR σ l0 16)) <|
  chk (ckI σ (gR σ l0 16) (((4 : Int32) * l2) + (1 : Int32))) <|
  chk (ckO σ 6 l0) <|
  bnd (DX8_prorates l0 l2 (aI σ (gR σ l0 16) (((4 : Int32) * l2) + (1 : Int32)).toNatClampNeg) l1 (0 : Int32) σ) fun _ σ1 =>
  DX8_isOther__53 FU l0 l2 (0 : Int32) σ1
theorem tX8_isOther__34 {r : Int32} {σ' : Sg} (C : Cx E p s m args meth c RX8 cX8_isOther_ 4) (hr : meth.sig.returnType = (some .boolean)) {l0 : Nat} {l1 : Int32} {l2 : Int32} {σ : Sg} (h : DX8_isOther__34 l0 l1 l2 σ = some (r, σ')) : Y E p l e (rmA 7 0 0) s m args below meth c (some (.int r)) σ' 0 0 4 0 0 σ 34 [some (.ref (ad E l0)), some (.int l1), some (.int l2), none] [] := by
  unfold DX8_isOther__34 at h
  refine x_aload_n (pc := 34) C dX8_isOther__34 rfl rfl ?_
  refine x_iload_n (pc := 35) C dX8_isOther__35 rfl rfl ?_
  refine x_aload_n (pc := 36) C dX8_isOther__36 rfl rfl ?_
  obtain ⟨k, h⟩ := chk_s h
  have k2 := k
  obtain ⟨k, h⟩ := chk_s h
  refine x_getR (pc := 37) C fX8_25 rfl k2 k dX8_isOther__37 ?_
  refine x_iconst (v := 4) (pc := 40) C dX8_isOther__40 (by decide) ?_
  refine x_iload_n (pc := 41) C dX8_isOther__41 rfl rfl ?_
  refine x_imul (pc := 42) C dX8_isOther__42 ?_
  refine x_iconst (v := 1) (pc := 43) C dX8_isOther__43 (by decide) ?_
  refine x_iadd (pc := 44) C dX8_isOther__44 ?_
  obtain ⟨k, h⟩ := chk_s h
  refine x_iald (pc := 45) C k dX8_isOther__45 ?_
  refine x_iload_n (pc := 46) C dX8_isOther__46 rfl rfl ?_
  refine x_iconst (v := 0) (pc := 47) C dX8_isOther__47 (by decide) ?_
  obtain ⟨k, h⟩ := chk_s h
  have k2 := k
  obtain ⟨u0, σ1, k, h⟩ := bnd_s h
  refine x_callV0 (pc := 48) C (mX8_prorates E l k) cl6 k2 cX8_383 nX8_prorates sX8_prorates rfl rfl (Nat.le_of_ble_eq_true rfl) ⟨Nat.le_of_ble_eq_true rfl, Nat.le_of_ble_eq_true rfl, Nat.le_of_ble_eq_true rfl, Nat.le_of_ble_eq_true rfl⟩ dX8_isOther__48 ?_
  refine x_iconst (v := 0) (pc := 51) C dX8_isOther__51 (by decide) ?_
  refine x_istore_n (M := [some _, some _, some _, some _]) (pc := 52) C dX8_isOther__52 rfl (by decide) rfl ?_
  exact x_sub (tX8_isOther__53 C hr FU _ _ _ _ h) (xLe_s (xLe_n (xLe_s (xLe_s xLe_0))))
def DX8_isOther__7 : Nat → Nat → Int32 → Int32 → Int32 → Sg → Option (Int32 × Sg)
  | 0, _, _, _, _, _ => none
  | n + 1, l0, l1, l2, l3, σ =>
    chk (ckO σ 6 l0) <|
    bnd (DX8_couponsOf l0 l2 σ) fun v1 σ2 =>
    if v1 ≤ l3 then
      DX8_isOther__34 l0 l1 l2 σ2
    else
      chk (ckO σ2 6 l0) <|
      chk (ckV (gR σ2 l0 52)) <|
      chk (ckO σ2 6 l0) <|
      chk (ckV (gR σ2 l0 51)) <|
      chk (ckI σ2 (gR σ2 l0 51) l3) <|
      chk (ckI σ2 (gR σ2 l0 52) l3) <|
      wlet (wI σ2 (gR σ2 l0 52) l3.toNatClampNeg (aI σ2 (gR σ2 l0 51) l3.toNatClampNeg)) fun σ3 =>
      DX8_isOther__7 n l0 l1 l2 (l3 + (1 : Int32)) σ3
theorem tX8_isOther__7 {r : Int32} {σ' : Sg} (C : Cx E p s m args meth c RX8 cX8_isOther_ 4) (hr : meth.sig.returnType = (some .boolean)) : ∀ (n : Nat) (l0 : Nat) (l1 : Int32) (l2 : Int32) (l3 : Int32) (σ : Sg) (h : DX8_isOther__7 n l0 l1 l2 l3 σ = some (r, σ')), Y E p l e (rmA 7 0 0) s m args below meth c (some (.int r)) σ' 0 0 4 0 0 σ 7 [some (.ref (ad E l0)), some (.int l1), some (.int l2), some (.int l3)] [] := by
  intro n
  induction n with
  | zero => intro l0 l1 l2 l3 σ h; cases h
  | succ n ih =>
    intro l0 l1 l2 l3 σ h
    unfold DX8_isOther__7 at h
    refine x_iload_n (pc := 7) C dX8_isOther__7 rfl rfl ?_
    refine x_aload_n (pc := 8) C dX8_isOther__8 rfl rfl ?_
    refine x_iload_n (pc := 9) C dX8_isOther__9 rfl rfl ?_
    obtain ⟨k, h⟩ := chk_s h
    have k2 := k
    obtain ⟨v1, σ2, k, h⟩ := bnd_s h
    refine x_callV1 (pc := 10) C (mX8_couponsOf E l k) cl6 k2 cX8_301 nX8_couponsOf sX8_couponsOf rfl rfl (Nat.le_of_ble_eq_true rfl) ⟨Nat.le_of_ble_eq_true rfl, Nat.le_of_ble_eq_true rfl, Nat.le_of_ble_eq_true rfl, Nat.le_of_ble_eq_true rfl⟩ dX8_isOther__10 ?_
    refine x_icmp_ge (pc := 13) (tgt := 34) C dX8_isOther__13 (by decide) (fun q => ?_) (fun q => ?_)
    · rw [if_pos q] at h
      exact x_sub (tX8_isOther__34 C hr h) (xLe_s (xLe_s (xLe_s (xLe_n xLe_0))))
    · rw [if_neg q] at h
      refine x_aload_n (pc := 16) C dX8_isOther__16 rfl rfl ?_
      obtain ⟨k, h⟩ := chk_s h
      have k2 := k
      obtain ⟨k, h⟩ := chk_s h
      refine x_getR (pc := 17) C fX8_91 rfl k2 k dX8_isOther__17 ?_
      refine x_iload_n (pc := 20) C dX8_isOther__20 rfl rfl ?_
      refine x_aload_n (pc := 21) C dX8_isOther__21 rfl rfl ?_
      obtain ⟨k, h⟩ := chk_s h
      have k2 := k
      obtain ⟨k, h⟩ := chk_s h
      refine x_getR (pc := 22) C fX8_88 rfl k2 k dX8_isOther__22 ?_
      refine x_iload_n (pc := 25) C dX8_isOther__25 rfl rfl ?_
      obtain ⟨k, h⟩ := chk_s h
      refine x_iald (pc := 26) C k dX8_isOther__26 ?_
      obtain ⟨k, h⟩ := chk_s h
      obtain ⟨σ3, e1, h⟩ := wlet_s h
      refine x_iast (pc := 27) C k dX8_isOther__27 (x_eq e1 ?_)
      refine x_iinc (v := 1) (M := [some _, some _, some _, some _]) (pc := 28) C dX8_isOther__28 rfl (by decide) (by decide) rfl ?_
      refine x_goto (tgt := 7) (pc := 31) C dX8_isOther__31 (by decide) ?_
      exact x_sub (ih _ _ _ _ _ h) (xLe_s (xLe_s (xLe_s (xLe_s xLe_0))))
def DX8_isOther_ (l0 : Nat) (l1 : Int32) (l2 : Int32) (σ : Sg) : Option (Int32 × Sg) :=
  chk (ckO σ 6 l0) <|
  bnd (DX8_prorates_ l0 l2 σ) fun _ σ1 =>
  DX8_isOther__7 FU l0 l1 l2 (0 : Int32) σ1
theorem mX8_isOther_ (E : Ev) (l : Launch) {l0 : Nat} {l1 : Int32} {l2 : Int32} {σ : Sg} {r : Int32} {σ' : Sg} (h : DX8_isOther_ l0 l1 l2 σ = some (r, σ')) : Mt E l yX8_isOther_ cX8_isOther_ 4 (some .boolean) 7 0 0 [.ref (ad E l0), .int l1, .int l2] σ (some (.int r)) σ' := by
  refine Mt.ofX (by decide) (Nat.le_of_ble_eq_true rfl) (L0 := [some (.ref (ad E l0)), some (.int l1), some (.int l2), none]) (xEntN_ok [.ref (ad E l0), .int l1, .int l2] 4) (fun p e s m args below meth c C hr hn => ?_)
  unfold DX8_isOther_ at h
  refine x_aload_n (pc := 0) C dX8_isOther__0 rfl rfl ?_
  refine x_iload_n (pc := 1) C dX8_isOther__1 rfl rfl ?_
  obtain ⟨k, h⟩ := chk_s h
  have k2 := k
  obtain ⟨u0, σ1, k, h⟩ := bnd_s h
  refine x_callV0 (pc := 2) C (mX8_prorates_ E l k) cl6 k2 cX8_396 nX8_prorates_ sX8_prorates_ rfl rfl (Nat.le_of_ble_eq_true rfl) ⟨Nat.le_of_ble_eq_true rfl, Nat.le_of_ble_eq_true rfl, Nat.le_of_ble_eq_true rfl, Nat.le_of_ble_eq_true rfl⟩ dX8_isOther__2 ?_
  refine x_iconst (v := 0) (pc := 5) C dX8_isOther__5 (by decide) ?_
  refine x_istore_n (M := [some _, some _, some _, some _]) (pc := 6) C dX8_isOther__6 rfl (by decide) rfl ?_
  exact x_sub (tX8_isOther__7 C hr FU _ _ _ _ _ h) (xLe_s (xLe_s (xLe_s (xLe_s xLe_0))))
def DX8_matters_44 (K19 : Nat → Int32 → Int32 → Int32 → Sg → Option (Int32 × Sg)) (l0 : Nat) (l1 : Int32) (l3 : Int32) (s0 : Int32) (s1 : Int32) (σ : Sg) : Option (Int32 × Sg) :=
  K19 l0 l1 (s0 ||| s1) (l3 + (1 : Int32)) σ
theorem tX8_matters_44 {r : Int32} {σ' : Sg} (C : Cx E p s m args meth c RX8 cX8_matters 4) (hr : meth.sig.returnType = (some .int)) {K19 : Nat → Int32 → Int32 → Int32 → Sg → Option (Int32 × Sg)} (hK19 : ∀ (l0 : Nat) (l1 : Int32) (l2 : Int32) (l3 : Int32) (σ : Sg), K19 l0 l1 l2 l3 σ = some (r, σ') → Y E p l e (rmA 8 0 0) s m args below meth c (some (.int r)) σ' 0 0 4 0 0 σ 19 [some (.ref (ad E l0)), some (.int l1), some (.int l2), some (.int l3)] []) {l0 : Nat} {l1 : Int32} {l3 : Int32} {s0 : Int32} {s1 : Int32} {σ : Sg} (h : DX8_matters_44 K19 l0 l1 l3 s0 s1 σ = some (r, σ')) : Y E p l e (rmA 8 0 0) s m args below meth c (some (.int r)) σ' 0 0 4 0 0 σ 44 [some (.ref (ad E l0)), some (.int l1), none, some (.int l3)] [.int s1, .int s0] := by
  unfold DX8_matters_44 at h
  refine x_ior (pc := 44) C dX8_matters_44 ?_
  refine x_istore_n (M := [some _, some _, some _, some _]) (pc := 45) C dX8_matters_45 rfl (by decide) rfl ?_
  refine x_iinc (v := 1) (M := [some _, some _, some _, some _]) (pc := 46) C dX8_matters_46 rfl (by decide) (by decide) rfl ?_
  refine x_goto (tgt := 19) (pc := 49) C dX8_matters_49 (by decide) ?_
  exact x_sub (hK19 _ _ _ _ _ h) (xLe_s (xLe_s (xLe_s (xLe_s xLe_0))))
def DX8_matters_52 (l2 : Int32) (σ : Sg) : Option (Int32 × Sg) :=
  some (l2, σ)
theorem tX8_matters_52 {r : Int32} {σ' : Sg} (C : Cx E p s m args meth c RX8 cX8_matters 4) (hr : meth.sig.returnType = (some .int)) {l2 : Int32} {σ : Sg} (h : DX8_matters_52 l2 σ = some (r, σ')) : Y E p l e (rmA 8 0 0) s m args below meth c (some (.int r)) σ' 0 0 4 0 0 σ 52 [none, none, some (.int l2), none] [] := by
  unfold DX8_matters_52 at h
  refine x_iload_n (pc := 52) C dX8_matters_52 rfl rfl ?_
  cases h
  exact x_iret C hr dX8_matters_53
def DX8_matters_19 : Nat → Nat → Int32 → Int32 → Int32 → Sg → Option (Int32 × Sg)
  | 0, _, _, _, _, _ => none
  | n + 1, l0, l1, l2, l3, σ =>
    chk (ckO σ 6 l0) <|
    if (gI σ l0 9) ≤ l3 then
      DX8_matters_52 l2 σ
    else
      chk (ckO σ 6 l0) <|
      bnd (DX8_isOther_ l0 l1 l3 σ) fun v1 σ2 =>
      if v1 = 0 then
        DX8_matters_44 (DX8_matters_19 n) l0 l1 l3 l2 (0 : Int32) σ2
      else
        DX8_matters_44 (DX8_matters_19 n) l0 l1 l3 l2 ((1 : Int32) <<< (l3 &&& 31)) σ2
theorem tX8_matters_19 {r : Int32} {σ' : Sg} (C : Cx E p s m args meth c RX8 cX8_matters 4) (hr : meth.sig.returnType = (some .int)) : ∀ (n : Nat) (l0 : Nat) (l1 : Int32) (l2 : Int32) (l3 : Int32) (σ : Sg) (h : DX8_matters_19 n l0 l1 l2 l3 σ = some (r, σ')), Y E p l e (rmA 8 0 0) s m args below meth c (some (.int r)) σ' 0 0 4 0 0 σ 19 [some (.ref (ad E l0)), some (.int l1), some (.int l2), some (.int l3)] [] := by
  intro n
  induction n with
  | zero => intro l0 l1 l2 l3 σ h; cases h
  | succ n ih =>
    intro l0 l1 l2 l3 σ h
    unfold DX8_matters_19 at h
    refine x_iload_n (pc := 19) C dX8_matters_19 rfl rfl ?_
    refine x_aload_n (pc := 20) C dX8_matters_20 rfl rfl ?_
    obtain ⟨k, h⟩ := chk_s h
    refine x_getI (pc := 21) C fX8_192 rfl k dX8_matters_21 ?_
    refine x_icmp_ge (pc := 24) (tgt := 52) C dX8_matters_24 (by decide) (fun q => ?_) (fun q => ?_)
    · rw [if_pos q] at h
      exact x_sub (tX8_matters_52 C hr h) (xLe_n (xLe_n (xLe_s (xLe_n xLe_0))))
    · rw [if_neg q] at h
      refine x_iload_n (pc := 27) C dX8_matters_27 rfl rfl ?_
      refine x_aload_n (pc := 28) C dX8_matters_28 rfl rfl ?_
      refine x_iload_n (pc := 29) C dX8_matters_29 rfl rfl ?_
      refine x_iload_n (pc := 30) C dX8_matters_30 rfl rfl ?_
      obtain ⟨k, h⟩ := chk_s h
      have k2 := k
      obtain ⟨v1, σ2, k, h⟩ := bnd_s h
      refine x_callV1 (pc := 31) C (mX8_isOther_ E l k) cl6 k2 cX8_398 nX8_isOther_ sX8_isOther_ rfl rfl (Nat.le_of_ble_eq_true rfl) ⟨Nat.le_of_ble_eq_true rfl, Nat.le_of_ble_eq_true rfl, Nat.le_of_ble_eq_true rfl, Nat.le_of_ble_eq_true rfl⟩ dX8_matters_31 ?_
      refine x_if_eq (pc := 34) (tgt := 43) C dX8_matters_34 (by decide) (fun q => ?_) (fun q => ?_)
      · rw [if_pos q] at h
        refine x_iconst (v := 0) (pc := 43) C dX8_matters_43 (by decide) ?_
        exact x_sub (tX8_matters_44 C hr ih h) (xLe_s (xLe_s (xLe_n (xLe_s xLe_0))))
      · rw [if_neg q] at h
        refine x_iconst (v := 1) (pc := 37) C dX8_matters_37 (by decide) ?_
        refine x_iload_n (pc := 38) C dX8_matters_38 rfl rfl ?_
        refine x_ishl (pc := 39) C dX8_matters_39 ?_
        refine x_goto (tgt := 44) (pc := 40) C dX8_matters_40 (by decide) ?_
        exact x_sub (tX8_matters_44 C hr ih h) (xLe_s (xLe_s (xLe_n (xLe_s xLe_0))))
def DX8_matters (l0 : Nat) (l1 : Int32) (σ : Sg) : Option (Int32 × Sg) :=
  chk (ckO σ 6 l0) <|
  wlet (pI σ l0 0 (0 : Int32)) fun σ1 =>
  chk (ckO σ1 6 l0) <|
  bnd (DX8_isProviso l0 l1 σ1) fun v2 σ3 =>
  if v2 = 0 then
    some ((-1 : Int32), σ3)
  else
    DX8_matters_19 FU l0 l1 (0 : Int32) (0 : Int32) σ3
theorem mX8_matters (E : Ev) (l : Launch) {l0 : Nat} {l1 : Int32} {σ : Sg} {r : Int32} {σ' : Sg} (h : DX8_matters l0 l1 σ = some (r, σ')) : Mt E l yX8_matters cX8_matters 4 (some .int) 8 0 0 [.ref (ad E l0), .int l1] σ (some (.int r)) σ' := by
  refine Mt.ofX (by decide) (Nat.le_of_ble_eq_true rfl) (L0 := [some (.ref (ad E l0)), some (.int l1), none, none]) (xEntN_ok [.ref (ad E l0), .int l1] 4) (fun p e s m args below meth c C hr hn => ?_)
  unfold DX8_matters at h
  refine x_aload_n (pc := 0) C dX8_matters_0 rfl rfl ?_
  refine x_iconst (v := 0) (pc := 1) C dX8_matters_1 (by decide) ?_
  obtain ⟨k, h⟩ := chk_s h
  obtain ⟨σ1, e1, h⟩ := wlet_s h
  refine x_putI (pc := 2) C pX8_112 rfl k dX8_matters_2 (x_eq e1 ?_)
  refine x_aload_n (pc := 5) C dX8_matters_5 rfl rfl ?_
  refine x_iload_n (pc := 6) C dX8_matters_6 rfl rfl ?_
  obtain ⟨k, h⟩ := chk_s h
  have k2 := k
  obtain ⟨v2, σ3, k, h⟩ := bnd_s h
  refine x_callV1 (pc := 7) C (mX8_isProviso E l k) cl6 k2 cX8_387 nX8_isProviso sX8_isProviso rfl rfl (Nat.le_of_ble_eq_true rfl) ⟨Nat.le_of_ble_eq_true rfl, Nat.le_of_ble_eq_true rfl, Nat.le_of_ble_eq_true rfl, Nat.le_of_ble_eq_true rfl⟩ dX8_matters_7 ?_
  refine x_if_ne (pc := 10) (tgt := 15) C dX8_matters_10 (by decide) (fun q => ?_) (fun q => ?_)
  · rw [if_pos q] at h
    refine x_iconst (v := -1) (pc := 13) C dX8_matters_13 (by decide) ?_
    cases h
    exact x_iret C hr dX8_matters_14
  · rw [if_neg q] at h
    refine x_iconst (v := 0) (pc := 15) C dX8_matters_15 (by decide) ?_
    refine x_istore_n (M := [some _, some _, some _, none]) (pc := 16) C dX8_matters_16 rfl (by decide) rfl ?_
    refine x_iconst (v := 0) (pc := 17) C dX8_matters_17 (by decide) ?_
    refine x_istore_n (M := [some _, some _, some _, some _]) (pc := 18) C dX8_matters_18 rfl (by decide) rfl ?_
    exact x_sub (tX8_matters_19 C hr FU _ _ _ _ _ h) (xLe_s (xLe_s (xLe_s (xLe_s xLe_0))))
def DX8_earned_72 (K5 : Nat → Int32 → Int32 → Int64 → Int32 → Sg → Option (Int64 × Sg)) (K36 : Nat → Int32 → Int32 → Int64 → Int32 → Int32 → Sg → Option (Int64 × Sg)) (l0 : Nat) (l1 : Int32) (l2 : Int32) (l5 : Int32) (l6 : Int32) (s0 : Int64) (s1 : Int64) (σ : Sg) : Option (Int64 × Sg) :=
  K36 l0 l1 l2 (s0 + s1) l5 (l6 + (1 : Int32)) σ
theorem tX8_earned_72 {r : Int64} {σ' : Sg} (C : Cx E p s m args meth c RX8 cX8_earned 7) (hr : meth.sig.returnType = (some .long)) {K5 : Nat → Int32 → Int32 → Int64 → Int32 → Sg → Option (Int64 × Sg)} (hK5 : ∀ (l0 : Nat) (l1 : Int32) (l2 : Int32) (l3 : Int64) (l5 : Int32) (σ : Sg), K5 l0 l1 l2 l3 l5 σ = some (r, σ') → Y E p l e (rmA 6 0 0) s m args below meth c (some (.long r)) σ' 0 0 7 0 0 σ 5 [some (.ref (ad E l0)), some (.int l1), some (.int l2), some (.long l3), none, some (.int l5), none] []) {K36 : Nat → Int32 → Int32 → Int64 → Int32 → Int32 → Sg → Option (Int64 × Sg)} (hK36 : ∀ (l0 : Nat) (l1 : Int32) (l2 : Int32) (l3 : Int64) (l5 : Int32) (l6 : Int32) (σ : Sg), K36 l0 l1 l2 l3 l5 l6 σ = some (r, σ') → Y E p l e (rmA 6 0 0) s m args below meth c (some (.long r)) σ' 0 0 7 0 0 σ 36 [some (.ref (ad E l0)), some (.int l1), some (.int l2), some (.long l3), none, some (.int l5), some (.int l6)] []) {l0 : Nat} {l1 : Int32} {l2 : Int32} {l5 : Int32} {l6 : Int32} {s0 : Int64} {s1 : Int64} {σ : Sg} (h : DX8_earned_72 K5 K36 l0 l1 l2 l5 l6 s0 s1 σ = some (r, σ')) : Y E p l e (rmA 6 0 0) s m args below meth c (some (.long r)) σ' 0 0 7 0 0 σ 72 [some (.ref (ad E l0)), some (.int l1), some (.int l2), none, none, some (.int l5), some (.int l6)] [.long s1, .long s0] := by
  unfold DX8_earned_72 at h
  refine x_ladd (pc := 72) C dX8_earned_72 ?_
  refine x_lstore_n (M := [some _, some _, some _, some _, none, some _, some _]) (pc := 73) C dX8_earned_73 rfl (by decide) rfl ?_
  refine x_iinc (v := 1) (M := [some _, some _, some _, some _, none, some _, some _]) (pc := 74) C dX8_earned_74 rfl (by decide) (by decide) rfl ?_
  refine x_goto (tgt := 36) (pc := 77) C dX8_earned_77 (by decide) ?_
  exact x_sub (hK36 _ _ _ _ _ _ _ h) (xLe_s (xLe_s (xLe_s (xLe_s (xLe_n (xLe_s (xLe_s xLe_0)))))))
def DX8_earned_80 (K5 : Nat → Int32 → Int32 → Int64 → Int32 → Sg → Option (Int64 × Sg)) (l0 : Nat) (l1 : Int32) (l2 : Int32) (l3 : Int64) (l5 : Int32) (σ : Sg) : Option (Int64 × Sg) :=
  K5 l0 l1 l2 l3 (l5 + (1 : Int32)) σ
theorem tX8_earned_80 {r : Int64} {σ' : Sg} (C : Cx E p s m args meth c RX8 cX8_earned 7) (hr : meth.sig.returnType = (some .long)) {K5 : Nat → Int32 → Int32 → Int64 → Int32 → Sg → Option (Int64 × Sg)} (hK5 : ∀ (l0 : Nat) (l1 : Int32) (l2 : Int32) (l3 : Int64) (l5 : Int32) (σ : Sg), K5 l0 l1 l2 l3 l5 σ = some (r, σ') → Y E p l e (rmA 6 0 0) s m args below meth c (some (.long r)) σ' 0 0 7 0 0 σ 5 [some (.ref (ad E l0)), some (.int l1), some (.int l2), some (.long l3), none, some (.int l5), none] []) {l0 : Nat} {l1 : Int32} {l2 : Int32} {l3 : Int64} {l5 : Int32} {σ : Sg} (h : DX8_earned_80 K5 l0 l1 l2 l3 l5 σ = some (r, σ')) : Y E p l e (rmA 6 0 0) s m args below meth c (some (.long r)) σ' 0 0 7 0 0 σ 80 [some (.ref (ad E l0)), some (.int l1), some (.int l2), some (.long l3), none, some (.int l5), none] [] := by
  unfold DX8_earned_80 at h
  refine x_iinc (v := 1) (M := [some _, some _, some _, some _, none, some _, none]) (pc := 80) C dX8_earned_80 rfl (by decide) (by decide) rfl ?_
  refine x_goto (tgt := 5) (pc := 83) C dX8_earned_83 (by decide) ?_
  exact x_sub (hK5 _ _ _ _ _ _ h) (xLe_s (xLe_s (xLe_s (xLe_s (xLe_n (xLe_s (xLe_n xLe_0)))))))
def DX8_earned_36 (K5 : Nat → Int32 → Int32 → Int64 → Int32 → Sg → Option (Int64 × Sg)) : Nat → Nat → Int32 → Int32 → Int64 → Int32 → Int32 → Sg → Option (Int64 × Sg)
  | 0, _, _, _, _, _, _, _ => none
  | n + 1, l0, l1, l2, l3, l5, l6, σ =>
    chk (ckO σ 6 l0) <|
    bnd (DX8_couponsOf l0 l5 σ) fun v1 σ2 =>
    if v1 ≤ l6 then
      DX8_earned_80 K5 l0 l1 l2 l3 l5 σ2
    else
      chk (ckO σ2 6 l0) <|
      bnd (DX8_carrierOf l0 l5 l6 σ2) fun v3 σ4 =>
      if v3 = l1 then
        chk (ckO σ4 6 l0) <|
        chk (ckV (gR σ4 l0 51)) <|
        chk (ckI σ4 (gR σ4 l0 51) l6) <|
        DX8_earned_72 K5 (DX8_earned_36 K5 n) l0 l1 l2 l5 l6 l3 ((aI σ4 (gR σ4 l0 51) l6.toNatClampNeg).toInt64) σ4
      else
        DX8_earned_72 K5 (DX8_earned_36 K5 n) l0 l1 l2 l5 l6 l3 (0 : Int64) σ4
theorem tX8_earned_36 {r : Int64} {σ' : Sg} (C : Cx E p s m args meth c RX8 cX8_earned 7) (hr : meth.sig.returnType = (some .long)) {K5 : Nat → Int32 → Int32 → Int64 → Int32 → Sg → Option (Int64 × Sg)} (hK5 : ∀ (l0 : Nat) (l1 : Int32) (l2 : Int32) (l3 : Int64) (l5 : Int32) (σ : Sg), K5 l0 l1 l2 l3 l5 σ = some (r, σ') → Y E p l e (rmA 6 0 0) s m args below meth c (some (.long r)) σ' 0 0 7 0 0 σ 5 [some (.ref (ad E l0)), some (.int l1), some (.int l2), some (.long l3), none, some (.int l5), none] []) : ∀ (n : Nat) (l0 : Nat) (l1 : Int32) (l2 : Int32) (l3 : Int64) (l5 : Int32) (l6 : Int32) (σ : Sg) (h : DX8_earned_36 K5 n l0 l1 l2 l3 l5 l6 σ = some (r, σ')), Y E p l e (rmA 6 0 0) s m args below meth c (some (.long r)) σ' 0 0 7 0 0 σ 36 [some (.ref (ad E l0)), some (.int l1), some (.int l2), some (.long l3), none, some (.int l5), some (.int l6)] [] := by
  intro n
  induction n with
  | zero => intro l0 l1 l2 l3 l5 l6 σ h; cases h
  | succ n ih =>
    intro l0 l1 l2 l3 l5 l6 σ h
    unfold DX8_earned_36 at h
    refine x_iload (pc := 36) C dX8_earned_36 rfl ?_
    refine x_aload_n (pc := 38) C dX8_earned_38 rfl rfl ?_
    refine x_iload (pc := 39) C dX8_earned_39 rfl ?_
    obtain ⟨k, h⟩ := chk_s h
    have k2 := k
    obtain ⟨v1, σ2, k, h⟩ := bnd_s h
    refine x_callV1 (pc := 41) C (mX8_couponsOf E l k) cl6 k2 cX8_301 nX8_couponsOf sX8_couponsOf rfl rfl (Nat.le_of_ble_eq_true rfl) ⟨Nat.le_of_ble_eq_true rfl, Nat.le_of_ble_eq_true rfl, Nat.le_of_ble_eq_true rfl, Nat.le_of_ble_eq_true rfl⟩ dX8_earned_41 ?_
    refine x_icmp_ge (pc := 44) (tgt := 80) C dX8_earned_44 (by decide) (fun q => ?_) (fun q => ?_)
    · rw [if_pos q] at h
      exact x_sub (tX8_earned_80 C hr hK5 h) (xLe_s (xLe_s (xLe_s (xLe_s (xLe_n (xLe_s (xLe_n xLe_0)))))))
    · rw [if_neg q] at h
      refine x_lload_n (pc := 47) C dX8_earned_47 rfl rfl ?_
      refine x_aload_n (pc := 48) C dX8_earned_48 rfl rfl ?_
      refine x_iload (pc := 49) C dX8_earned_49 rfl ?_
      refine x_iload (pc := 51) C dX8_earned_51 rfl ?_
      obtain ⟨k, h⟩ := chk_s h
      have k2 := k
      obtain ⟨v3, σ4, k, h⟩ := bnd_s h
      refine x_callV1 (pc := 53) C (mX8_carrierOf E l k) cl6 k2 cX8_321 nX8_carrierOf sX8_carrierOf rfl rfl (Nat.le_of_ble_eq_true rfl) ⟨Nat.le_of_ble_eq_true rfl, Nat.le_of_ble_eq_true rfl, Nat.le_of_ble_eq_true rfl, Nat.le_of_ble_eq_true rfl⟩ dX8_earned_53 ?_
      refine x_iload_n (pc := 56) C dX8_earned_56 rfl rfl ?_
      refine x_icmp_ne (pc := 57) (tgt := 71) C dX8_earned_57 (by decide) (fun q => ?_) (fun q => ?_)
      · rw [if_pos q] at h
        refine x_aload_n (pc := 60) C dX8_earned_60 rfl rfl ?_
        obtain ⟨k, h⟩ := chk_s h
        have k2 := k
        obtain ⟨k, h⟩ := chk_s h
        refine x_getR (pc := 61) C fX8_88 rfl k2 k dX8_earned_61 ?_
        refine x_iload (pc := 64) C dX8_earned_64 rfl ?_
        obtain ⟨k, h⟩ := chk_s h
        refine x_iald (pc := 66) C k dX8_earned_66 ?_
        refine x_i2l (pc := 67) C dX8_earned_67 ?_
        refine x_goto (tgt := 72) (pc := 68) C dX8_earned_68 (by decide) ?_
        exact x_sub (tX8_earned_72 C hr hK5 ih h) (xLe_s (xLe_s (xLe_s (xLe_n (xLe_n (xLe_s (xLe_s xLe_0)))))))
      · rw [if_neg q] at h
        refine x_lconst (v := 0) (pc := 71) C dX8_earned_71 (by decide) ?_
        exact x_sub (tX8_earned_72 C hr hK5 ih h) (xLe_s (xLe_s (xLe_s (xLe_n (xLe_n (xLe_s (xLe_s xLe_0)))))))
def DX8_earned_86 (l3 : Int64) (σ : Sg) : Option (Int64 × Sg) :=
  some (l3, σ)
theorem tX8_earned_86 {r : Int64} {σ' : Sg} (C : Cx E p s m args meth c RX8 cX8_earned 7) (hr : meth.sig.returnType = (some .long)) {l3 : Int64} {σ : Sg} (h : DX8_earned_86 l3 σ = some (r, σ')) : Y E p l e (rmA 6 0 0) s m args below meth c (some (.long r)) σ' 0 0 7 0 0 σ 86 [none, none, none, some (.long l3), none, none, none] [] := by
  unfold DX8_earned_86 at h
  refine x_lload_n (pc := 86) C dX8_earned_86 rfl rfl ?_
  cases h
  exact x_lret C hr dX8_earned_87
def DX8_earned_5 : Nat → Nat → Int32 → Int32 → Int64 → Int32 → Sg → Option (Int64 × Sg)
  | 0, _, _, _, _, _, _ => none
  | n + 1, l0, l1, l2, l3, l5, σ =>
    chk (ckO σ 6 l0) <|
    if (gI σ l0 9) ≤ l5 then
      DX8_earned_86 l3 σ
    else
      chk (ckO σ 6 l0) <|
      chk (ckV (gR σ l0 16)) <|
      chk (ckI σ (gR σ l0 16) (((4 : Int32) * l5) + (1 : Int32))) <|
      chk (ckO σ 6 l0) <|
      bnd (DX8_prorates l0 l5 (aI σ (gR σ l0 16) (((4 : Int32) * l5) + (1 : Int32)).toNatClampNeg) l2 (0 : Int32) σ) fun _ σ1 =>
      DX8_earned_36 (DX8_earned_5 n) FU l0 l1 l2 l3 l5 (0 : Int32) σ1
theorem tX8_earned_5 {r : Int64} {σ' : Sg} (C : Cx E p s m args meth c RX8 cX8_earned 7) (hr : meth.sig.returnType = (some .long)) : ∀ (n : Nat) (l0 : Nat) (l1 : Int32) (l2 : Int32) (l3 : Int64) (l5 : Int32) (σ : Sg) (h : DX8_earned_5 n l0 l1 l2 l3 l5 σ = some (r, σ')), Y E p l e (rmA 6 0 0) s m args below meth c (some (.long r)) σ' 0 0 7 0 0 σ 5 [some (.ref (ad E l0)), some (.int l1), some (.int l2), some (.long l3), none, some (.int l5), none] [] := by
  intro n
  induction n with
  | zero => intro l0 l1 l2 l3 l5 σ h; cases h
  | succ n ih =>
    intro l0 l1 l2 l3 l5 σ h
    unfold DX8_earned_5 at h
    refine x_iload (pc := 5) C dX8_earned_5 rfl ?_
    refine x_aload_n (pc := 7) C dX8_earned_7 rfl rfl ?_
    obtain ⟨k, h⟩ := chk_s h
    refine x_getI (pc := 8) C fX8_192 rfl k dX8_earned_8 ?_
    refine x_icmp_ge (pc := 11) (tgt := 86) C dX8_earned_11 (by decide) (fun q => ?_) (fun q => ?_)
    · rw [if_pos q] at h
      exact x_sub (tX8_earned_86 C hr h) (xLe_n (xLe_n (xLe_n (xLe_s (xLe_n (xLe_n (xLe_n xLe_0)))))))
    · rw [if_neg q] at h
      refine x_aload_n (pc := 14) C dX8_earned_14 rfl rfl ?_
      refine x_iload (pc := 15) C dX8_earned_15 rfl ?_
      refine x_aload_n (pc := 17) C dX8_earned_17 rfl rfl ?_
      obtain ⟨k, h⟩ := chk_s h
      have k2 := k
      obtain ⟨k, h⟩ := chk_s h
      refine x_getR (pc := 18) C fX8_25 rfl k2 k dX8_earned_18 ?_
      refine x_iconst (v := 4) (pc := 21) C dX8_earned_21 (by decide) ?_
      refine x_iload (pc := 22) C dX8_earned_22 rfl ?_
      refine x_imul (pc := 24) C dX8_earned_24 ?_
      refine x_iconst (v := 1) (pc := 25) C dX8_earned_25 (by decide) ?_
      refine x_iadd (pc := 26) C dX8_earned_26 ?_
      obtain ⟨k, h⟩ := chk_s h
      refine x_iald (pc := 27) C k dX8_earned_27 ?_
      refine x_iload_n (pc := 28) C dX8_earned_28 rfl rfl ?_
      refine x_iconst (v := 0) (pc := 29) C dX8_earned_29 (by decide) ?_
      obtain ⟨k, h⟩ := chk_s h
      have k2 := k
      obtain ⟨u0, σ1, k, h⟩ := bnd_s h
      refine x_callV0 (pc := 30) C (mX8_prorates E l k) cl6 k2 cX8_383 nX8_prorates sX8_prorates rfl rfl (Nat.le_of_ble_eq_true rfl) ⟨Nat.le_of_ble_eq_true rfl, Nat.le_of_ble_eq_true rfl, Nat.le_of_ble_eq_true rfl, Nat.le_of_ble_eq_true rfl⟩ dX8_earned_30 ?_
      refine x_iconst (v := 0) (pc := 33) C dX8_earned_33 (by decide) ?_
      refine x_istore (M := [some _, some _, some _, some _, none, some _, some _]) (pc := 34) C dX8_earned_34 (by decide) rfl ?_
      exact x_sub (tX8_earned_36 C hr ih FU _ _ _ _ _ _ _ h) (xLe_s (xLe_s (xLe_s (xLe_s (xLe_n (xLe_s (xLe_s xLe_0)))))))
def DX8_earned (l0 : Nat) (l1 : Int32) (l2 : Int32) (σ : Sg) : Option (Int64 × Sg) :=
  DX8_earned_5 FU l0 l1 l2 (0 : Int64) (0 : Int32) σ
theorem mX8_earned (E : Ev) (l : Launch) {l0 : Nat} {l1 : Int32} {l2 : Int32} {σ : Sg} {r : Int64} {σ' : Sg} (h : DX8_earned l0 l1 l2 σ = some (r, σ')) : Mt E l yX8_earned cX8_earned 7 (some .long) 6 0 0 [.ref (ad E l0), .int l1, .int l2] σ (some (.long r)) σ' := by
  refine Mt.ofX (by decide) (Nat.le_of_ble_eq_true rfl) (L0 := [some (.ref (ad E l0)), some (.int l1), some (.int l2), none, none, none, none]) (xEntN_ok [.ref (ad E l0), .int l1, .int l2] 7) (fun p e s m args below meth c C hr hn => ?_)
  unfold DX8_earned at h
  refine x_lconst (v := 0) (pc := 0) C dX8_earned_0 (by decide) ?_
  refine x_lstore_n (M := [some _, some _, some _, some _, none, none, none]) (pc := 1) C dX8_earned_1 rfl (by decide) rfl ?_
  refine x_iconst (v := 0) (pc := 2) C dX8_earned_2 (by decide) ?_
  refine x_istore (M := [some _, some _, some _, some _, none, some _, none]) (pc := 3) C dX8_earned_3 (by decide) rfl ?_
  exact x_sub (tX8_earned_5 C hr FU _ _ _ _ _ _ h) (xLe_s (xLe_s (xLe_s (xLe_s (xLe_n (xLe_s (xLe_n xLe_0)))))))
def DX8_harmed_22 (σ : Sg) : Option (Int32 × Sg) :=
  some ((-1 : Int32), σ)
theorem tX8_harmed_22 {r : Int32} {σ' : Sg} (C : Cx E p s m args meth c RX8 cX8_harmed 9) (hr : meth.sig.returnType = (some .int)) {σ : Sg} (h : DX8_harmed_22  σ = some (r, σ')) : Y E p l e (rmA 7 0 0) s m args below meth c (some (.int r)) σ' 0 0 9 0 0 σ 22 [none, none, none, none, none, none, none, none, none] [] := by
  unfold DX8_harmed_22 at h
  refine x_iconst (v := -1) (pc := 22) C dX8_harmed_22 (by decide) ?_
  cases h
  exact x_iret C hr dX8_harmed_23
def DX8_harmed_93 (K33 : Nat → Int32 → Int32 → Int32 → Int64 → Int32 → Sg → Option (Int32 × Sg)) (l0 : Nat) (l1 : Int32) (l2 : Int32) (l3 : Int32) (l4 : Int64) (l6 : Int32) (σ : Sg) : Option (Int32 × Sg) :=
  K33 l0 l1 l2 l3 l4 (l6 + (1 : Int32)) σ
theorem tX8_harmed_93 {r : Int32} {σ' : Sg} (C : Cx E p s m args meth c RX8 cX8_harmed 9) (hr : meth.sig.returnType = (some .int)) {K33 : Nat → Int32 → Int32 → Int32 → Int64 → Int32 → Sg → Option (Int32 × Sg)} (hK33 : ∀ (l0 : Nat) (l1 : Int32) (l2 : Int32) (l3 : Int32) (l4 : Int64) (l6 : Int32) (σ : Sg), K33 l0 l1 l2 l3 l4 l6 σ = some (r, σ') → Y E p l e (rmA 7 0 0) s m args below meth c (some (.int r)) σ' 0 0 9 0 0 σ 33 [some (.ref (ad E l0)), some (.int l1), some (.int l2), some (.int l3), some (.long l4), none, some (.int l6), none, none] []) {l0 : Nat} {l1 : Int32} {l2 : Int32} {l3 : Int32} {l4 : Int64} {l6 : Int32} {σ : Sg} (h : DX8_harmed_93 K33 l0 l1 l2 l3 l4 l6 σ = some (r, σ')) : Y E p l e (rmA 7 0 0) s m args below meth c (some (.int r)) σ' 0 0 9 0 0 σ 93 [some (.ref (ad E l0)), some (.int l1), some (.int l2), some (.int l3), some (.long l4), none, some (.int l6), none, none] [] := by
  unfold DX8_harmed_93 at h
  refine x_iinc (v := 1) (M := [some _, some _, some _, some _, some _, none, some _, none, none]) (pc := 93) C dX8_harmed_93 rfl (by decide) (by decide) rfl ?_
  refine x_goto (tgt := 33) (pc := 96) C dX8_harmed_96 (by decide) ?_
  exact x_sub (hK33 _ _ _ _ _ _ _ h) (xLe_s (xLe_s (xLe_s (xLe_s (xLe_s (xLe_n (xLe_s (xLe_n (xLe_n xLe_0)))))))))
def DX8_harmed_73 (K33 : Nat → Int32 → Int32 → Int32 → Int64 → Int32 → Sg → Option (Int32 × Sg)) (l0 : Nat) (l1 : Int32) (l2 : Int32) (l3 : Int32) (l4 : Int64) (l6 : Int32) (s0 : Int64) (σ : Sg) : Option (Int32 × Sg) :=
  if l4 < s0 then
    DX8_harmed_93 K33 l0 l1 l2 l6 s0 l6 σ
  else
    DX8_harmed_93 K33 l0 l1 l2 l3 l4 l6 σ
theorem tX8_harmed_73 {r : Int32} {σ' : Sg} (C : Cx E p s m args meth c RX8 cX8_harmed 9) (hr : meth.sig.returnType = (some .int)) {K33 : Nat → Int32 → Int32 → Int32 → Int64 → Int32 → Sg → Option (Int32 × Sg)} (hK33 : ∀ (l0 : Nat) (l1 : Int32) (l2 : Int32) (l3 : Int32) (l4 : Int64) (l6 : Int32) (σ : Sg), K33 l0 l1 l2 l3 l4 l6 σ = some (r, σ') → Y E p l e (rmA 7 0 0) s m args below meth c (some (.int r)) σ' 0 0 9 0 0 σ 33 [some (.ref (ad E l0)), some (.int l1), some (.int l2), some (.int l3), some (.long l4), none, some (.int l6), none, none] []) {l0 : Nat} {l1 : Int32} {l2 : Int32} {l3 : Int32} {l4 : Int64} {l6 : Int32} {s0 : Int64} {σ : Sg} (h : DX8_harmed_73 K33 l0 l1 l2 l3 l4 l6 s0 σ = some (r, σ')) : Y E p l e (rmA 7 0 0) s m args below meth c (some (.int r)) σ' 0 0 9 0 0 σ 73 [some (.ref (ad E l0)), some (.int l1), some (.int l2), some (.int l3), some (.long l4), none, some (.int l6), none, none] [.long s0] := by
  unfold DX8_harmed_73 at h
  refine x_lstore (M := [some _, some _, some _, some _, some _, none, some _, some _, none]) (pc := 73) C dX8_harmed_73 (by decide) rfl ?_
  refine x_lload (pc := 75) C dX8_harmed_75 rfl ?_
  refine x_lload (pc := 77) C dX8_harmed_77 rfl ?_
  refine x_lcmp (pc := 79) C dX8_harmed_79 ?_
  refine x_lif_gt (pc := 80) (tgt := 86) C dX8_harmed_80 (by decide) (fun q => ?_) (fun q => ?_)
  · rw [if_pos q] at h
    refine x_iload (pc := 86) C dX8_harmed_86 rfl ?_
    refine x_istore_n (M := [some _, some _, some _, some _, some _, none, some _, some _, none]) (pc := 88) C dX8_harmed_88 rfl (by decide) rfl ?_
    refine x_lload (pc := 89) C dX8_harmed_89 rfl ?_
    refine x_lstore (M := [some _, some _, some _, some _, some _, none, some _, some _, none]) (pc := 91) C dX8_harmed_91 (by decide) rfl ?_
    exact x_sub (tX8_harmed_93 C hr hK33 h) (xLe_s (xLe_s (xLe_s (xLe_s (xLe_s (xLe_n (xLe_s (xLe_n (xLe_n xLe_0)))))))))
  · rw [if_neg q] at h
    refine x_goto (tgt := 93) (pc := 83) C dX8_harmed_83 (by decide) ?_
    exact x_sub (tX8_harmed_93 C hr hK33 h) (xLe_s (xLe_s (xLe_s (xLe_s (xLe_s (xLe_n (xLe_s (xLe_n (xLe_n xLe_0)))))))))
def DX8_harmed_118 (s0 : Int32) (σ : Sg) : Option (Int32 × Sg) :=
  some (s0, σ)
theorem tX8_harmed_118 {r : Int32} {σ' : Sg} (C : Cx E p s m args meth c RX8 cX8_harmed 9) (hr : meth.sig.returnType = (some .int)) {s0 : Int32} {σ : Sg} (h : DX8_harmed_118 s0 σ = some (r, σ')) : Y E p l e (rmA 7 0 0) s m args below meth c (some (.int r)) σ' 0 0 9 0 0 σ 118 [none, none, none, none, none, none, none, none, none] [.int s0] := by
  unfold DX8_harmed_118 at h
  cases h
  exact x_iret C hr dX8_harmed_118
def DX8_harmed_111 (l3 : Int32) (σ : Sg) : Option (Int32 × Sg) :=
  DX8_harmed_118 l3 σ
theorem tX8_harmed_111 {r : Int32} {σ' : Sg} (C : Cx E p s m args meth c RX8 cX8_harmed 9) (hr : meth.sig.returnType = (some .int)) {l3 : Int32} {σ : Sg} (h : DX8_harmed_111 l3 σ = some (r, σ')) : Y E p l e (rmA 7 0 0) s m args below meth c (some (.int r)) σ' 0 0 9 0 0 σ 111 [none, none, none, some (.int l3), none, none, none, none, none] [] := by
  unfold DX8_harmed_111 at h
  refine x_iload_n (pc := 111) C dX8_harmed_111 rfl rfl ?_
  refine x_goto (tgt := 118) (pc := 112) C dX8_harmed_112 (by decide) ?_
  exact x_sub (tX8_harmed_118 C hr h) (xLe_n (xLe_n (xLe_n (xLe_n (xLe_n (xLe_n (xLe_n (xLe_n (xLe_n xLe_0)))))))))
def DX8_harmed_99 (l2 : Int32) (l3 : Int32) (l4 : Int64) (σ : Sg) : Option (Int32 × Sg) :=
  if l3 = (-2 : Int32) then
    DX8_harmed_111 l3 σ
  else
    chk (ckN (2 : Int32)) <|
    if (l2 - l2 / (2 : Int32) * (2 : Int32)) = 0 then
      DX8_harmed_111 l3 σ
    else
      DX8_harmed_118 l4.toInt32 σ
theorem tX8_harmed_99 {r : Int32} {σ' : Sg} (C : Cx E p s m args meth c RX8 cX8_harmed 9) (hr : meth.sig.returnType = (some .int)) {l2 : Int32} {l3 : Int32} {l4 : Int64} {σ : Sg} (h : DX8_harmed_99 l2 l3 l4 σ = some (r, σ')) : Y E p l e (rmA 7 0 0) s m args below meth c (some (.int r)) σ' 0 0 9 0 0 σ 99 [none, none, some (.int l2), some (.int l3), some (.long l4), none, none, none, none] [] := by
  unfold DX8_harmed_99 at h
  refine x_iload_n (pc := 99) C dX8_harmed_99 rfl rfl ?_
  refine x_bipush (v := -2) (pc := 100) C dX8_harmed_100 (by decide) ?_
  refine x_icmp_eq (pc := 102) (tgt := 111) C dX8_harmed_102 (by decide) (fun q => ?_) (fun q => ?_)
  · rw [if_pos q] at h
    exact x_sub (tX8_harmed_111 C hr h) (xLe_n (xLe_n (xLe_n (xLe_s (xLe_n (xLe_n (xLe_n (xLe_n (xLe_n xLe_0)))))))))
  · rw [if_neg q] at h
    refine x_iload_n (pc := 105) C dX8_harmed_105 rfl rfl ?_
    refine x_iconst (v := 2) (pc := 106) C dX8_harmed_106 (by decide) ?_
    obtain ⟨k, h⟩ := chk_s h
    refine x_irem (pc := 107) C dX8_harmed_107 (ckN_s k) ?_
    refine x_if_ne (pc := 108) (tgt := 115) C dX8_harmed_108 (by decide) (fun q => ?_) (fun q => ?_)
    · rw [if_pos q] at h
      exact x_sub (tX8_harmed_111 C hr h) (xLe_n (xLe_n (xLe_n (xLe_s (xLe_n (xLe_n (xLe_n (xLe_n (xLe_n xLe_0)))))))))
    · rw [if_neg q] at h
      refine x_lload (pc := 115) C dX8_harmed_115 rfl ?_
      refine x_l2i (pc := 117) C dX8_harmed_117 ?_
      exact x_sub (tX8_harmed_118 C hr h) (xLe_n (xLe_n (xLe_n (xLe_n (xLe_n (xLe_n (xLe_n (xLe_n (xLe_n xLe_0)))))))))
def DX8_harmed_33 : Nat → Nat → Int32 → Int32 → Int32 → Int64 → Int32 → Sg → Option (Int32 × Sg)
  | 0, _, _, _, _, _, _, _ => none
  | n + 1, l0, l1, l2, l3, l4, l6, σ =>
    chk (ckO σ 6 l0) <|
    if (gI σ l0 4) ≤ l6 then
      DX8_harmed_99 l2 l3 l4 σ
    else
      chk (ckO σ 6 l0) <|
      bnd (DX8_earned l0 l6 l1 σ) fun v1 σ2 =>
      chk (ckO σ2 6 l0) <|
      bnd (DX8_earned l0 l6 (-2 : Int32) σ2) fun v3 σ4 =>
      if (2 : Int32) ≤ l2 then
        DX8_harmed_73 (DX8_harmed_33 n) l0 l1 l2 l3 l4 l6 (-(v1 - v3)) σ4
      else
        DX8_harmed_73 (DX8_harmed_33 n) l0 l1 l2 l3 l4 l6 (v1 - v3) σ4
theorem tX8_harmed_33 {r : Int32} {σ' : Sg} (C : Cx E p s m args meth c RX8 cX8_harmed 9) (hr : meth.sig.returnType = (some .int)) : ∀ (n : Nat) (l0 : Nat) (l1 : Int32) (l2 : Int32) (l3 : Int32) (l4 : Int64) (l6 : Int32) (σ : Sg) (h : DX8_harmed_33 n l0 l1 l2 l3 l4 l6 σ = some (r, σ')), Y E p l e (rmA 7 0 0) s m args below meth c (some (.int r)) σ' 0 0 9 0 0 σ 33 [some (.ref (ad E l0)), some (.int l1), some (.int l2), some (.int l3), some (.long l4), none, some (.int l6), none, none] [] := by
  intro n
  induction n with
  | zero => intro l0 l1 l2 l3 l4 l6 σ h; cases h
  | succ n ih =>
    intro l0 l1 l2 l3 l4 l6 σ h
    unfold DX8_harmed_33 at h
    refine x_iload (pc := 33) C dX8_harmed_33 rfl ?_
    refine x_aload_n (pc := 35) C dX8_harmed_35 rfl rfl ?_
    obtain ⟨k, h⟩ := chk_s h
    refine x_getI (pc := 36) C fX8_189 rfl k dX8_harmed_36 ?_
    refine x_icmp_ge (pc := 39) (tgt := 99) C dX8_harmed_39 (by decide) (fun q => ?_) (fun q => ?_)
    · rw [if_pos q] at h
      exact x_sub (tX8_harmed_99 C hr h) (xLe_n (xLe_n (xLe_s (xLe_s (xLe_s (xLe_n (xLe_n (xLe_n (xLe_n xLe_0)))))))))
    · rw [if_neg q] at h
      refine x_aload_n (pc := 42) C dX8_harmed_42 rfl rfl ?_
      refine x_iload (pc := 43) C dX8_harmed_43 rfl ?_
      refine x_iload_n (pc := 45) C dX8_harmed_45 rfl rfl ?_
      obtain ⟨k, h⟩ := chk_s h
      have k2 := k
      obtain ⟨v1, σ2, k, h⟩ := bnd_s h
      refine x_callV1 (pc := 46) C (mX8_earned E l k) cl6 k2 cX8_400 nX8_earned sX8_earned rfl rfl (Nat.le_of_ble_eq_true rfl) ⟨Nat.le_of_ble_eq_true rfl, Nat.le_of_ble_eq_true rfl, Nat.le_of_ble_eq_true rfl, Nat.le_of_ble_eq_true rfl⟩ dX8_harmed_46 ?_
      refine x_aload_n (pc := 49) C dX8_harmed_49 rfl rfl ?_
      refine x_iload (pc := 50) C dX8_harmed_50 rfl ?_
      refine x_bipush (v := -2) (pc := 52) C dX8_harmed_52 (by decide) ?_
      obtain ⟨k, h⟩ := chk_s h
      have k2 := k
      obtain ⟨v3, σ4, k, h⟩ := bnd_s h
      refine x_callV1 (pc := 54) C (mX8_earned E l k) cl6 k2 cX8_400 nX8_earned sX8_earned rfl rfl (Nat.le_of_ble_eq_true rfl) ⟨Nat.le_of_ble_eq_true rfl, Nat.le_of_ble_eq_true rfl, Nat.le_of_ble_eq_true rfl, Nat.le_of_ble_eq_true rfl⟩ dX8_harmed_54 ?_
      refine x_lsub (pc := 57) C dX8_harmed_57 ?_
      refine x_lstore (M := [some _, some _, some _, some _, some _, none, some _, some _, none]) (pc := 58) C dX8_harmed_58 (by decide) rfl ?_
      refine x_iload_n (pc := 60) C dX8_harmed_60 rfl rfl ?_
      refine x_iconst (v := 2) (pc := 61) C dX8_harmed_61 (by decide) ?_
      refine x_icmp_ge (pc := 62) (tgt := 70) C dX8_harmed_62 (by decide) (fun q => ?_) (fun q => ?_)
      · rw [if_pos q] at h
        refine x_lload (pc := 70) C dX8_harmed_70 rfl ?_
        refine x_lneg (pc := 72) C dX8_harmed_72 ?_
        exact x_sub (tX8_harmed_73 C hr ih h) (xLe_s (xLe_s (xLe_s (xLe_s (xLe_s (xLe_n (xLe_s (xLe_n (xLe_n xLe_0)))))))))
      · rw [if_neg q] at h
        refine x_lload (pc := 65) C dX8_harmed_65 rfl ?_
        refine x_goto (tgt := 73) (pc := 67) C dX8_harmed_67 (by decide) ?_
        exact x_sub (tX8_harmed_73 C hr ih h) (xLe_s (xLe_s (xLe_s (xLe_s (xLe_s (xLe_n (xLe_s (xLe_n (xLe_n xLe_0)))))))))
def DX8_harmed (l0 : Nat) (l1 : Int32) (l2 : Int32) (σ : Sg) : Option (Int32 × Sg) :=
  chk (ckO σ 6 l0) <|
  wlet (pI σ l0 0 (0 : Int32)) fun σ1 =>
  chk (ckO σ1 6 l0) <|
  bnd (DX8_isProviso l0 l1 σ1) fun v2 σ3 =>
  if v2 = 0 then
    DX8_harmed_22 σ3
  else
    if l2 < 0 then
      DX8_harmed_22 σ3
    else
      if l2 ≤ (3 : Int32) then
        DX8_harmed_33 FU l0 l1 l2 (-2 : Int32) (0 : Int64) (0 : Int32) σ3
      else
        DX8_harmed_22 σ3
theorem mX8_harmed (E : Ev) (l : Launch) {l0 : Nat} {l1 : Int32} {l2 : Int32} {σ : Sg} {r : Int32} {σ' : Sg} (h : DX8_harmed l0 l1 l2 σ = some (r, σ')) : Mt E l yX8_harmed cX8_harmed 9 (some .int) 7 0 0 [.ref (ad E l0), .int l1, .int l2] σ (some (.int r)) σ' := by
  refine Mt.ofX (by decide) (Nat.le_of_ble_eq_true rfl) (L0 := [some (.ref (ad E l0)), some (.int l1), some (.int l2), none, none, none, none, none, none]) (xEntN_ok [.ref (ad E l0), .int l1, .int l2] 9) (fun p e s m args below meth c C hr hn => ?_)
  unfold DX8_harmed at h
  refine x_aload_n (pc := 0) C dX8_harmed_0 rfl rfl ?_
  refine x_iconst (v := 0) (pc := 1) C dX8_harmed_1 (by decide) ?_
  obtain ⟨k, h⟩ := chk_s h
  obtain ⟨σ1, e1, h⟩ := wlet_s h
  refine x_putI (pc := 2) C pX8_112 rfl k dX8_harmed_2 (x_eq e1 ?_)
  refine x_aload_n (pc := 5) C dX8_harmed_5 rfl rfl ?_
  refine x_iload_n (pc := 6) C dX8_harmed_6 rfl rfl ?_
  obtain ⟨k, h⟩ := chk_s h
  have k2 := k
  obtain ⟨v2, σ3, k, h⟩ := bnd_s h
  refine x_callV1 (pc := 7) C (mX8_isProviso E l k) cl6 k2 cX8_387 nX8_isProviso sX8_isProviso rfl rfl (Nat.le_of_ble_eq_true rfl) ⟨Nat.le_of_ble_eq_true rfl, Nat.le_of_ble_eq_true rfl, Nat.le_of_ble_eq_true rfl, Nat.le_of_ble_eq_true rfl⟩ dX8_harmed_7 ?_
  refine x_if_eq (pc := 10) (tgt := 22) C dX8_harmed_10 (by decide) (fun q => ?_) (fun q => ?_)
  · rw [if_pos q] at h
    exact x_sub (tX8_harmed_22 C hr h) (xLe_n (xLe_n (xLe_n (xLe_n (xLe_n (xLe_n (xLe_n (xLe_n (xLe_n xLe_0)))))))))
  · rw [if_neg q] at h
    refine x_iload_n (pc := 13) C dX8_harmed_13 rfl rfl ?_
    refine x_if_lt (pc := 14) (tgt := 22) C dX8_harmed_14 (by decide) (fun q => ?_) (fun q => ?_)
    · rw [if_pos q] at h
      exact x_sub (tX8_harmed_22 C hr h) (xLe_n (xLe_n (xLe_n (xLe_n (xLe_n (xLe_n (xLe_n (xLe_n (xLe_n xLe_0)))))))))
    · rw [if_neg q] at h
      refine x_iload_n (pc := 17) C dX8_harmed_17 rfl rfl ?_
      refine x_iconst (v := 3) (pc := 18) C dX8_harmed_18 (by decide) ?_
      refine x_icmp_le (pc := 19) (tgt := 24) C dX8_harmed_19 (by decide) (fun q => ?_) (fun q => ?_)
      · rw [if_pos q] at h
        refine x_bipush (v := -2) (pc := 24) C dX8_harmed_24 (by decide) ?_
        refine x_istore_n (M := [some _, some _, some _, some _, none, none, none, none, none]) (pc := 26) C dX8_harmed_26 rfl (by decide) rfl ?_
        refine x_lconst (v := 0) (pc := 27) C dX8_harmed_27 (by decide) ?_
        refine x_lstore (M := [some _, some _, some _, some _, some _, none, none, none, none]) (pc := 28) C dX8_harmed_28 (by decide) rfl ?_
        refine x_iconst (v := 0) (pc := 30) C dX8_harmed_30 (by decide) ?_
        refine x_istore (M := [some _, some _, some _, some _, some _, none, some _, none, none]) (pc := 31) C dX8_harmed_31 (by decide) rfl ?_
        exact x_sub (tX8_harmed_33 C hr FU _ _ _ _ _ _ _ h) (xLe_s (xLe_s (xLe_s (xLe_s (xLe_s (xLe_n (xLe_s (xLe_n (xLe_n xLe_0)))))))))
      · rw [if_neg q] at h
        exact x_sub (tX8_harmed_22 C hr h) (xLe_n (xLe_n (xLe_n (xLe_n (xLe_n (xLe_n (xLe_n (xLe_n (xLe_n xLe_0)))))))))
def DX8_keeps_90 (l0 : Nat) (σ : Sg) : Option (Unit × Sg) :=
  chk (ckO σ 6 l0) <|
  chk (ckO σ 6 l0) <|
  wlet (pI σ l0 22 ((gI σ l0 22) + (1 : Int32))) fun σ1 =>
  some ((), σ1)
theorem tX8_keeps_90 {r : Unit} {σ' : Sg} (C : Cx E p s m args meth c RX8 cX8_keeps 2) (hr : meth.sig.returnType = none) {l0 : Nat} {σ : Sg} (h : DX8_keeps_90 l0 σ = some (r, σ')) : Y E p l e (rmA 1 0 0) s m args below meth c none σ' 0 0 2 0 0 σ 90 [some (.ref (ad E l0)), none] [] := by
  unfold DX8_keeps_90 at h
  refine x_aload_n (pc := 90) C dX8_keeps_90 rfl rfl ?_
  refine x_dup (pc := 91) C dX8_keeps_91 rfl ?_
  obtain ⟨k, h⟩ := chk_s h
  refine x_getI (pc := 92) C fX8_287 rfl k dX8_keeps_92 ?_
  refine x_iconst (v := 1) (pc := 95) C dX8_keeps_95 (by decide) ?_
  refine x_iadd (pc := 96) C dX8_keeps_96 ?_
  obtain ⟨k, h⟩ := chk_s h
  obtain ⟨σ1, e1, h⟩ := wlet_s h
  refine x_putI (pc := 97) C pX8_287 rfl k dX8_keeps_97 (x_eq e1 ?_)
  cases h
  exact x_vret C hr dX8_keeps_100
def DX8_keeps_56 : Nat → Nat → Int32 → Sg → Option (Unit × Sg)
  | 0, _, _, _ => none
  | n + 1, l0, l1, σ =>
    if (242 : Int32) ≤ l1 then
      DX8_keeps_90 l0 σ
    else
      chk (ckO σ 6 l0) <|
      chk (ckV (gR σ l0 21)) <|
      chk (ckO σ 6 l0) <|
      chk (ckO σ 6 l0) <|
      chk (ckV (gR σ l0 20)) <|
      chk (ckI σ (gR σ l0 20) l1) <|
      chk (ckI σ (gR σ l0 21) (((242 : Int32) * (gI σ l0 22)) + l1)) <|
      wlet (wI σ (gR σ l0 21) (((242 : Int32) * (gI σ l0 22)) + l1).toNatClampNeg (aI σ (gR σ l0 20) l1.toNatClampNeg)) fun σ1 =>
      DX8_keeps_56 n l0 (l1 + (1 : Int32)) σ1
theorem tX8_keeps_56 {r : Unit} {σ' : Sg} (C : Cx E p s m args meth c RX8 cX8_keeps 2) (hr : meth.sig.returnType = none) : ∀ (n : Nat) (l0 : Nat) (l1 : Int32) (σ : Sg) (h : DX8_keeps_56 n l0 l1 σ = some (r, σ')), Y E p l e (rmA 1 0 0) s m args below meth c none σ' 0 0 2 0 0 σ 56 [some (.ref (ad E l0)), some (.int l1)] [] := by
  intro n
  induction n with
  | zero => intro l0 l1 σ h; cases h
  | succ n ih =>
    intro l0 l1 σ h
    unfold DX8_keeps_56 at h
    refine x_iload_n (pc := 56) C dX8_keeps_56 rfl rfl ?_
    refine x_sipush (v := 242) (pc := 57) C dX8_keeps_57 (by decide) ?_
    refine x_icmp_ge (pc := 60) (tgt := 90) C dX8_keeps_60 (by decide) (fun q => ?_) (fun q => ?_)
    · rw [if_pos q] at h
      exact x_sub (tX8_keeps_90 C hr h) (xLe_s (xLe_n xLe_0))
    · rw [if_neg q] at h
      refine x_aload_n (pc := 63) C dX8_keeps_63 rfl rfl ?_
      obtain ⟨k, h⟩ := chk_s h
      have k2 := k
      obtain ⟨k, h⟩ := chk_s h
      refine x_getR (pc := 64) C fX8_40 rfl k2 k dX8_keeps_64 ?_
      refine x_sipush (v := 242) (pc := 67) C dX8_keeps_67 (by decide) ?_
      refine x_aload_n (pc := 70) C dX8_keeps_70 rfl rfl ?_
      obtain ⟨k, h⟩ := chk_s h
      refine x_getI (pc := 71) C fX8_287 rfl k dX8_keeps_71 ?_
      refine x_imul (pc := 74) C dX8_keeps_74 ?_
      refine x_iload_n (pc := 75) C dX8_keeps_75 rfl rfl ?_
      refine x_iadd (pc := 76) C dX8_keeps_76 ?_
      refine x_aload_n (pc := 77) C dX8_keeps_77 rfl rfl ?_
      obtain ⟨k, h⟩ := chk_s h
      have k2 := k
      obtain ⟨k, h⟩ := chk_s h
      refine x_getR (pc := 78) C fX8_37 rfl k2 k dX8_keeps_78 ?_
      refine x_iload_n (pc := 81) C dX8_keeps_81 rfl rfl ?_
      obtain ⟨k, h⟩ := chk_s h
      refine x_iald (pc := 82) C k dX8_keeps_82 ?_
      obtain ⟨k, h⟩ := chk_s h
      obtain ⟨σ1, e1, h⟩ := wlet_s h
      refine x_iast (pc := 83) C k dX8_keeps_83 (x_eq e1 ?_)
      refine x_iinc (v := 1) (M := [some _, some _]) (pc := 84) C dX8_keeps_84 rfl (by decide) (by decide) rfl ?_
      refine x_goto (tgt := 56) (pc := 87) C dX8_keeps_87 (by decide) ?_
      exact x_sub (ih _ _ _ h) (xLe_s (xLe_s xLe_0))
def DX8_keeps_54 (l0 : Nat) (σ : Sg) : Option (Unit × Sg) :=
  DX8_keeps_56 FU l0 (0 : Int32) σ
theorem tX8_keeps_54 {r : Unit} {σ' : Sg} (C : Cx E p s m args meth c RX8 cX8_keeps 2) (hr : meth.sig.returnType = none) {l0 : Nat} {σ : Sg} (h : DX8_keeps_54 l0 σ = some (r, σ')) : Y E p l e (rmA 1 0 0) s m args below meth c none σ' 0 0 2 0 0 σ 54 [some (.ref (ad E l0)), none] [] := by
  unfold DX8_keeps_54 at h
  refine x_iconst (v := 0) (pc := 54) C dX8_keeps_54 (by decide) ?_
  refine x_istore_n (M := [some _, some _]) (pc := 55) C dX8_keeps_55 rfl (by decide) rfl ?_
  exact x_sub (tX8_keeps_56 C hr FU _ _ _ h) (xLe_s (xLe_s xLe_0))
def DX8_keeps_44 (l0 : Nat) (σ : Sg) : Option (Unit × Sg) :=
  chk (ckO σ 6 l0) <|
  chk (ckO σ 6 l0) <|
  wlet (pI σ l0 22 ((gI σ l0 22) - (1 : Int32))) fun σ1 =>
  DX8_keeps_54 l0 σ1
theorem tX8_keeps_44 {r : Unit} {σ' : Sg} (C : Cx E p s m args meth c RX8 cX8_keeps 2) (hr : meth.sig.returnType = none) {l0 : Nat} {σ : Sg} (h : DX8_keeps_44 l0 σ = some (r, σ')) : Y E p l e (rmA 1 0 0) s m args below meth c none σ' 0 0 2 0 0 σ 44 [some (.ref (ad E l0)), none] [] := by
  unfold DX8_keeps_44 at h
  refine x_aload_n (pc := 44) C dX8_keeps_44 rfl rfl ?_
  refine x_dup (pc := 45) C dX8_keeps_45 rfl ?_
  obtain ⟨k, h⟩ := chk_s h
  refine x_getI (pc := 46) C fX8_287 rfl k dX8_keeps_46 ?_
  refine x_iconst (v := 1) (pc := 49) C dX8_keeps_49 (by decide) ?_
  refine x_isub (pc := 50) C dX8_keeps_50 ?_
  obtain ⟨k, h⟩ := chk_s h
  obtain ⟨σ1, e1, h⟩ := wlet_s h
  refine x_putI (pc := 51) C pX8_287 rfl k dX8_keeps_51 (x_eq e1 ?_)
  exact x_sub (tX8_keeps_54 C hr h) (xLe_s (xLe_n xLe_0))
def DX8_keeps_13 : Nat → Nat → Int32 → Sg → Option (Unit × Sg)
  | 0, _, _, _ => none
  | n + 1, l0, l1, σ =>
    chk (ckO σ 6 l0) <|
    chk (ckV (gR σ l0 21)) <|
    chk (ckL σ (gR σ l0 21)) <|
    if (nI (shp (gR σ l0 21)).2.1) ≤ l1 then
      DX8_keeps_44 l0 σ
    else
      chk (ckO σ 6 l0) <|
      chk (ckV (gR σ l0 21)) <|
      chk (ckO σ 6 l0) <|
      chk (ckV (gR σ l0 21)) <|
      chk (ckI σ (gR σ l0 21) l1) <|
      chk (ckI σ (gR σ l0 21) (l1 - (242 : Int32))) <|
      wlet (wI σ (gR σ l0 21) (l1 - (242 : Int32)).toNatClampNeg (aI σ (gR σ l0 21) l1.toNatClampNeg)) fun σ1 =>
      DX8_keeps_13 n l0 (l1 + (1 : Int32)) σ1
theorem tX8_keeps_13 {r : Unit} {σ' : Sg} (C : Cx E p s m args meth c RX8 cX8_keeps 2) (hr : meth.sig.returnType = none) : ∀ (n : Nat) (l0 : Nat) (l1 : Int32) (σ : Sg) (h : DX8_keeps_13 n l0 l1 σ = some (r, σ')), Y E p l e (rmA 1 0 0) s m args below meth c none σ' 0 0 2 0 0 σ 13 [some (.ref (ad E l0)), some (.int l1)] [] := by
  intro n
  induction n with
  | zero => intro l0 l1 σ h; cases h
  | succ n ih =>
    intro l0 l1 σ h
    unfold DX8_keeps_13 at h
    refine x_iload_n (pc := 13) C dX8_keeps_13 rfl rfl ?_
    refine x_aload_n (pc := 14) C dX8_keeps_14 rfl rfl ?_
    obtain ⟨k, h⟩ := chk_s h
    have k2 := k
    obtain ⟨k, h⟩ := chk_s h
    refine x_getR (pc := 15) C fX8_40 rfl k2 k dX8_keeps_15 ?_
    obtain ⟨k, h⟩ := chk_s h
    refine x_alen (pc := 18) C k dX8_keeps_18 ?_
    refine x_icmp_ge (pc := 19) (tgt := 44) C dX8_keeps_19 (by decide) (fun q => ?_) (fun q => ?_)
    · rw [if_pos q] at h
      exact x_sub (tX8_keeps_44 C hr h) (xLe_s (xLe_n xLe_0))
    · rw [if_neg q] at h
      refine x_aload_n (pc := 22) C dX8_keeps_22 rfl rfl ?_
      obtain ⟨k, h⟩ := chk_s h
      have k2 := k
      obtain ⟨k, h⟩ := chk_s h
      refine x_getR (pc := 23) C fX8_40 rfl k2 k dX8_keeps_23 ?_
      refine x_iload_n (pc := 26) C dX8_keeps_26 rfl rfl ?_
      refine x_sipush (v := 242) (pc := 27) C dX8_keeps_27 (by decide) ?_
      refine x_isub (pc := 30) C dX8_keeps_30 ?_
      refine x_aload_n (pc := 31) C dX8_keeps_31 rfl rfl ?_
      obtain ⟨k, h⟩ := chk_s h
      have k2 := k
      obtain ⟨k, h⟩ := chk_s h
      refine x_getR (pc := 32) C fX8_40 rfl k2 k dX8_keeps_32 ?_
      refine x_iload_n (pc := 35) C dX8_keeps_35 rfl rfl ?_
      obtain ⟨k, h⟩ := chk_s h
      refine x_iald (pc := 36) C k dX8_keeps_36 ?_
      obtain ⟨k, h⟩ := chk_s h
      obtain ⟨σ1, e1, h⟩ := wlet_s h
      refine x_iast (pc := 37) C k dX8_keeps_37 (x_eq e1 ?_)
      refine x_iinc (v := 1) (M := [some _, some _]) (pc := 38) C dX8_keeps_38 rfl (by decide) (by decide) rfl ?_
      refine x_goto (tgt := 13) (pc := 41) C dX8_keeps_41 (by decide) ?_
      exact x_sub (ih _ _ _ h) (xLe_s (xLe_s xLe_0))
def DX8_keeps (l0 : Nat) (σ : Sg) : Option (Unit × Sg) :=
  chk (ckO σ 6 l0) <|
  if (gI σ l0 22) = (14 : Int32) then
    DX8_keeps_13 FU l0 (242 : Int32) σ
  else
    DX8_keeps_54 l0 σ
theorem mX8_keeps (E : Ev) (l : Launch) {l0 : Nat} {σ : Sg} {r : Unit} {σ' : Sg} (h : DX8_keeps l0 σ = some (r, σ')) : Mt E l yX8_keeps cX8_keeps 2 none 1 0 0 [.ref (ad E l0)] σ none σ' := by
  refine Mt.ofX (by decide) (Nat.le_of_ble_eq_true rfl) (L0 := [some (.ref (ad E l0)), none]) (xEntN_ok [.ref (ad E l0)] 2) (fun p e s m args below meth c C hr hn => ?_)
  unfold DX8_keeps at h
  refine x_aload_n (pc := 0) C dX8_keeps_0 rfl rfl ?_
  obtain ⟨k, h⟩ := chk_s h
  refine x_getI (pc := 1) C fX8_287 rfl k dX8_keeps_1 ?_
  refine x_bipush (v := 14) (pc := 4) C dX8_keeps_4 (by decide) ?_
  refine x_icmp_ne (pc := 6) (tgt := 54) C dX8_keeps_6 (by decide) (fun q => ?_) (fun q => ?_)
  · rw [if_pos q] at h
    refine x_sipush (v := 242) (pc := 9) C dX8_keeps_9 (by decide) ?_
    refine x_istore_n (M := [some _, some _]) (pc := 12) C dX8_keeps_12 rfl (by decide) rfl ?_
    exact x_sub (tX8_keeps_13 C hr FU _ _ _ h) (xLe_s (xLe_s xLe_0))
  · rw [if_neg q] at h
    exact x_sub (tX8_keeps_54 C hr h) (xLe_s (xLe_n xLe_0))
def DX8_undo_60 (l0 : Nat) (σ : Sg) : Option (Int32 × Sg) :=
  chk (ckO σ 6 l0) <|
  some ((gI σ l0 22), σ)
theorem tX8_undo_60 {r : Int32} {σ' : Sg} (C : Cx E p s m args meth c RX8 cX8_undo 2) (hr : meth.sig.returnType = (some .int)) {l0 : Nat} {σ : Sg} (h : DX8_undo_60 l0 σ = some (r, σ')) : Y E p l e (rmA 1 0 0) s m args below meth c (some (.int r)) σ' 0 0 2 0 0 σ 60 [some (.ref (ad E l0)), none] [] := by
  unfold DX8_undo_60 at h
  refine x_aload_n (pc := 60) C dX8_undo_60 rfl rfl ?_
  obtain ⟨k, h⟩ := chk_s h
  refine x_getI (pc := 61) C fX8_287 rfl k dX8_undo_61 ?_
  cases h
  exact x_iret C hr dX8_undo_64
def DX8_undo_26 : Nat → Nat → Int32 → Sg → Option (Int32 × Sg)
  | 0, _, _, _ => none
  | n + 1, l0, l1, σ =>
    if (242 : Int32) ≤ l1 then
      DX8_undo_60 l0 σ
    else
      chk (ckO σ 6 l0) <|
      chk (ckV (gR σ l0 20)) <|
      chk (ckO σ 6 l0) <|
      chk (ckV (gR σ l0 21)) <|
      chk (ckO σ 6 l0) <|
      chk (ckI σ (gR σ l0 21) (((242 : Int32) * (gI σ l0 22)) + l1)) <|
      chk (ckI σ (gR σ l0 20) l1) <|
      wlet (wI σ (gR σ l0 20) l1.toNatClampNeg (aI σ (gR σ l0 21) (((242 : Int32) * (gI σ l0 22)) + l1).toNatClampNeg)) fun σ1 =>
      DX8_undo_26 n l0 (l1 + (1 : Int32)) σ1
theorem tX8_undo_26 {r : Int32} {σ' : Sg} (C : Cx E p s m args meth c RX8 cX8_undo 2) (hr : meth.sig.returnType = (some .int)) : ∀ (n : Nat) (l0 : Nat) (l1 : Int32) (σ : Sg) (h : DX8_undo_26 n l0 l1 σ = some (r, σ')), Y E p l e (rmA 1 0 0) s m args below meth c (some (.int r)) σ' 0 0 2 0 0 σ 26 [some (.ref (ad E l0)), some (.int l1)] [] := by
  intro n
  induction n with
  | zero => intro l0 l1 σ h; cases h
  | succ n ih =>
    intro l0 l1 σ h
    unfold DX8_undo_26 at h
    refine x_iload_n (pc := 26) C dX8_undo_26 rfl rfl ?_
    refine x_sipush (v := 242) (pc := 27) C dX8_undo_27 (by decide) ?_
    refine x_icmp_ge (pc := 30) (tgt := 60) C dX8_undo_30 (by decide) (fun q => ?_) (fun q => ?_)
    · rw [if_pos q] at h
      exact x_sub (tX8_undo_60 C hr h) (xLe_s (xLe_n xLe_0))
    · rw [if_neg q] at h
      refine x_aload_n (pc := 33) C dX8_undo_33 rfl rfl ?_
      obtain ⟨k, h⟩ := chk_s h
      have k2 := k
      obtain ⟨k, h⟩ := chk_s h
      refine x_getR (pc := 34) C fX8_37 rfl k2 k dX8_undo_34 ?_
      refine x_iload_n (pc := 37) C dX8_undo_37 rfl rfl ?_
      refine x_aload_n (pc := 38) C dX8_undo_38 rfl rfl ?_
      obtain ⟨k, h⟩ := chk_s h
      have k2 := k
      obtain ⟨k, h⟩ := chk_s h
      refine x_getR (pc := 39) C fX8_40 rfl k2 k dX8_undo_39 ?_
      refine x_sipush (v := 242) (pc := 42) C dX8_undo_42 (by decide) ?_
      refine x_aload_n (pc := 45) C dX8_undo_45 rfl rfl ?_
      obtain ⟨k, h⟩ := chk_s h
      refine x_getI (pc := 46) C fX8_287 rfl k dX8_undo_46 ?_
      refine x_imul (pc := 49) C dX8_undo_49 ?_
      refine x_iload_n (pc := 50) C dX8_undo_50 rfl rfl ?_
      refine x_iadd (pc := 51) C dX8_undo_51 ?_
      obtain ⟨k, h⟩ := chk_s h
      refine x_iald (pc := 52) C k dX8_undo_52 ?_
      obtain ⟨k, h⟩ := chk_s h
      obtain ⟨σ1, e1, h⟩ := wlet_s h
      refine x_iast (pc := 53) C k dX8_undo_53 (x_eq e1 ?_)
      refine x_iinc (v := 1) (M := [some _, some _]) (pc := 54) C dX8_undo_54 rfl (by decide) (by decide) rfl ?_
      refine x_goto (tgt := 26) (pc := 57) C dX8_undo_57 (by decide) ?_
      exact x_sub (ih _ _ _ h) (xLe_s (xLe_s xLe_0))
def DX8_undo (l0 : Nat) (σ : Sg) : Option (Int32 × Sg) :=
  chk (ckO σ 6 l0) <|
  wlet (pI σ l0 0 (0 : Int32)) fun σ1 =>
  chk (ckO σ1 6 l0) <|
  if (gI σ1 l0 22) = 0 then
    some ((-1 : Int32), σ1)
  else
    chk (ckO σ1 6 l0) <|
    chk (ckO σ1 6 l0) <|
    wlet (pI σ1 l0 22 ((gI σ1 l0 22) - (1 : Int32))) fun σ2 =>
    DX8_undo_26 FU l0 (0 : Int32) σ2
theorem mX8_undo (E : Ev) (l : Launch) {l0 : Nat} {σ : Sg} {r : Int32} {σ' : Sg} (h : DX8_undo l0 σ = some (r, σ')) : Mt E l yX8_undo cX8_undo 2 (some .int) 1 0 0 [.ref (ad E l0)] σ (some (.int r)) σ' := by
  refine Mt.ofX (by decide) (Nat.le_of_ble_eq_true rfl) (L0 := [some (.ref (ad E l0)), none]) (xEntN_ok [.ref (ad E l0)] 2) (fun p e s m args below meth c C hr hn => ?_)
  unfold DX8_undo at h
  refine x_aload_n (pc := 0) C dX8_undo_0 rfl rfl ?_
  refine x_iconst (v := 0) (pc := 1) C dX8_undo_1 (by decide) ?_
  obtain ⟨k, h⟩ := chk_s h
  obtain ⟨σ1, e1, h⟩ := wlet_s h
  refine x_putI (pc := 2) C pX8_112 rfl k dX8_undo_2 (x_eq e1 ?_)
  refine x_aload_n (pc := 5) C dX8_undo_5 rfl rfl ?_
  obtain ⟨k, h⟩ := chk_s h
  refine x_getI (pc := 6) C fX8_287 rfl k dX8_undo_6 ?_
  refine x_if_ne (pc := 9) (tgt := 14) C dX8_undo_9 (by decide) (fun q => ?_) (fun q => ?_)
  · rw [if_pos q] at h
    refine x_iconst (v := -1) (pc := 12) C dX8_undo_12 (by decide) ?_
    cases h
    exact x_iret C hr dX8_undo_13
  · rw [if_neg q] at h
    refine x_aload_n (pc := 14) C dX8_undo_14 rfl rfl ?_
    refine x_dup (pc := 15) C dX8_undo_15 rfl ?_
    obtain ⟨k, h⟩ := chk_s h
    refine x_getI (pc := 16) C fX8_287 rfl k dX8_undo_16 ?_
    refine x_iconst (v := 1) (pc := 19) C dX8_undo_19 (by decide) ?_
    refine x_isub (pc := 20) C dX8_undo_20 ?_
    obtain ⟨k, h⟩ := chk_s h
    obtain ⟨σ2, e1, h⟩ := wlet_s h
    refine x_putI (pc := 21) C pX8_287 rfl k dX8_undo_21 (x_eq e1 ?_)
    refine x_iconst (v := 0) (pc := 24) C dX8_undo_24 (by decide) ?_
    refine x_istore_n (M := [some _, some _]) (pc := 25) C dX8_undo_25 rfl (by decide) rfl ?_
    exact x_sub (tX8_undo_26 C hr FU _ _ _ h) (xLe_s (xLe_s xLe_0))
def DX8_firstToFly_26 (l2 : Int32) (σ : Sg) : Option (Int32 × Sg) :=
  some (l2, σ)
theorem tX8_firstToFly_26 {r : Int32} {σ' : Sg} (C : Cx E p s m args meth c RX8 cX8_firstToFly 3) (hr : meth.sig.returnType = (some .int)) {l2 : Int32} {σ : Sg} (h : DX8_firstToFly_26 l2 σ = some (r, σ')) : Y E p l e (rmA 2 0 0) s m args below meth c (some (.int r)) σ' 0 0 3 0 0 σ 26 [none, none, some (.int l2)] [] := by
  unfold DX8_firstToFly_26 at h
  refine x_iload_n (pc := 26) C dX8_firstToFly_26 rfl rfl ?_
  cases h
  exact x_iret C hr dX8_firstToFly_27
def DX8_firstToFly_2 : Nat → Nat → Int32 → Int32 → Sg → Option (Int32 × Sg)
  | 0, _, _, _, _ => none
  | n + 1, l0, l1, l2, σ =>
    chk (ckO σ 6 l0) <|
    bnd (DX8_couponsOf l0 l1 σ) fun v1 σ2 =>
    if v1 ≤ l2 then
      DX8_firstToFly_26 l2 σ2
    else
      chk (ckO σ2 6 l0) <|
      bnd (DX8_isFlown l0 l1 l2 σ2) fun v3 σ4 =>
      if v3 = 0 then
        DX8_firstToFly_26 l2 σ4
      else
        DX8_firstToFly_2 n l0 l1 (l2 + (1 : Int32)) σ4
theorem tX8_firstToFly_2 {r : Int32} {σ' : Sg} (C : Cx E p s m args meth c RX8 cX8_firstToFly 3) (hr : meth.sig.returnType = (some .int)) : ∀ (n : Nat) (l0 : Nat) (l1 : Int32) (l2 : Int32) (σ : Sg) (h : DX8_firstToFly_2 n l0 l1 l2 σ = some (r, σ')), Y E p l e (rmA 2 0 0) s m args below meth c (some (.int r)) σ' 0 0 3 0 0 σ 2 [some (.ref (ad E l0)), some (.int l1), some (.int l2)] [] := by
  intro n
  induction n with
  | zero => intro l0 l1 l2 σ h; cases h
  | succ n ih =>
    intro l0 l1 l2 σ h
    unfold DX8_firstToFly_2 at h
    refine x_iload_n (pc := 2) C dX8_firstToFly_2 rfl rfl ?_
    refine x_aload_n (pc := 3) C dX8_firstToFly_3 rfl rfl ?_
    refine x_iload_n (pc := 4) C dX8_firstToFly_4 rfl rfl ?_
    obtain ⟨k, h⟩ := chk_s h
    have k2 := k
    obtain ⟨v1, σ2, k, h⟩ := bnd_s h
    refine x_callV1 (pc := 5) C (mX8_couponsOf E l k) cl6 k2 cX8_301 nX8_couponsOf sX8_couponsOf rfl rfl (Nat.le_of_ble_eq_true rfl) ⟨Nat.le_of_ble_eq_true rfl, Nat.le_of_ble_eq_true rfl, Nat.le_of_ble_eq_true rfl, Nat.le_of_ble_eq_true rfl⟩ dX8_firstToFly_5 ?_
    refine x_icmp_ge (pc := 8) (tgt := 26) C dX8_firstToFly_8 (by decide) (fun q => ?_) (fun q => ?_)
    · rw [if_pos q] at h
      exact x_sub (tX8_firstToFly_26 C hr h) (xLe_n (xLe_n (xLe_s xLe_0)))
    · rw [if_neg q] at h
      refine x_aload_n (pc := 11) C dX8_firstToFly_11 rfl rfl ?_
      refine x_iload_n (pc := 12) C dX8_firstToFly_12 rfl rfl ?_
      refine x_iload_n (pc := 13) C dX8_firstToFly_13 rfl rfl ?_
      obtain ⟨k, h⟩ := chk_s h
      have k2 := k
      obtain ⟨v3, σ4, k, h⟩ := bnd_s h
      refine x_callV1 (pc := 14) C (mX8_isFlown E l k) cl6 k2 cX8_345 nX8_isFlown sX8_isFlown rfl rfl (Nat.le_of_ble_eq_true rfl) ⟨Nat.le_of_ble_eq_true rfl, Nat.le_of_ble_eq_true rfl, Nat.le_of_ble_eq_true rfl, Nat.le_of_ble_eq_true rfl⟩ dX8_firstToFly_14 ?_
      refine x_if_eq (pc := 17) (tgt := 26) C dX8_firstToFly_17 (by decide) (fun q => ?_) (fun q => ?_)
      · rw [if_pos q] at h
        exact x_sub (tX8_firstToFly_26 C hr h) (xLe_n (xLe_n (xLe_s xLe_0)))
      · rw [if_neg q] at h
        refine x_iinc (v := 1) (M := [some _, some _, some _]) (pc := 20) C dX8_firstToFly_20 rfl (by decide) (by decide) rfl ?_
        refine x_goto (tgt := 2) (pc := 23) C dX8_firstToFly_23 (by decide) ?_
        exact x_sub (ih _ _ _ _ h) (xLe_s (xLe_s (xLe_s xLe_0)))
def DX8_firstToFly (l0 : Nat) (l1 : Int32) (σ : Sg) : Option (Int32 × Sg) :=
  DX8_firstToFly_2 FU l0 l1 (0 : Int32) σ
theorem mX8_firstToFly (E : Ev) (l : Launch) {l0 : Nat} {l1 : Int32} {σ : Sg} {r : Int32} {σ' : Sg} (h : DX8_firstToFly l0 l1 σ = some (r, σ')) : Mt E l yX8_firstToFly cX8_firstToFly 3 (some .int) 2 0 0 [.ref (ad E l0), .int l1] σ (some (.int r)) σ' := by
  refine Mt.ofX (by decide) (Nat.le_of_ble_eq_true rfl) (L0 := [some (.ref (ad E l0)), some (.int l1), none]) (xEntN_ok [.ref (ad E l0), .int l1] 3) (fun p e s m args below meth c C hr hn => ?_)
  unfold DX8_firstToFly at h
  refine x_iconst (v := 0) (pc := 0) C dX8_firstToFly_0 (by decide) ?_
  refine x_istore_n (M := [some _, some _, some _]) (pc := 1) C dX8_firstToFly_1 rfl (by decide) rfl ?_
  exact x_sub (tX8_firstToFly_2 C hr FU _ _ _ _ h) (xLe_s (xLe_s (xLe_s xLe_0)))
def DX8_fly_146 (l0 : Nat) (l2 : Int32) (σ : Sg) : Option (Int32 × Sg) :=
  chk (ckO σ 6 l0) <|
  chk (ckV (gR σ l0 51)) <|
  chk (ckI σ (gR σ l0 51) l2) <|
  some ((aI σ (gR σ l0 51) l2.toNatClampNeg), σ)
theorem tX8_fly_146 {r : Int32} {σ' : Sg} (C : Cx E p s m args meth c RX8 cX8_fly 5) (hr : meth.sig.returnType = (some .int)) {l0 : Nat} {l2 : Int32} {σ : Sg} (h : DX8_fly_146 l0 l2 σ = some (r, σ')) : Y E p l e (rmA 7 0 0) s m args below meth c (some (.int r)) σ' 0 0 5 0 0 σ 146 [some (.ref (ad E l0)), none, some (.int l2), none, none] [] := by
  unfold DX8_fly_146 at h
  refine x_aload_n (pc := 146) C dX8_fly_146 rfl rfl ?_
  obtain ⟨k, h⟩ := chk_s h
  have k2 := k
  obtain ⟨k, h⟩ := chk_s h
  refine x_getR (pc := 147) C fX8_88 rfl k2 k dX8_fly_147 ?_
  refine x_iload_n (pc := 150) C dX8_fly_150 rfl rfl ?_
  obtain ⟨k, h⟩ := chk_s h
  refine x_iald (pc := 151) C k dX8_fly_151 ?_
  cases h
  exact x_iret C hr dX8_fly_152
def DX8_fly (l0 : Nat) (l1 : Int32) (l2 : Int32) (σ : Sg) : Option (Int32 × Sg) :=
  chk (ckO σ 6 l0) <|
  wlet (pI σ l0 0 (0 : Int32)) fun σ1 =>
  chk (ckO σ1 6 l0) <|
  bnd (DX8_isCoupon l0 l1 l2 σ1) fun v2 σ3 =>
  if v2 = 0 then
    some ((-1 : Int32), σ3)
  else
    chk (ckO σ3 6 l0) <|
    bnd (DX8_isFlown l0 l1 l2 σ3) fun v4 σ5 =>
    if v4 = 0 then
      chk (ckO σ5 6 l0) <|
      bnd (DX8_isRefunded l0 l1 σ5) fun v6 σ7 =>
      if v6 = 0 then
        chk (ckO σ7 6 l0) <|
        bnd (DX8_firstToFly l0 l1 σ7) fun v8 σ9 =>
        if v8 = l2 then
          chk (ckO σ9 6 l0) <|
          bnd (DX8_prorates_ l0 l1 σ9) fun _ σ10 =>
          chk (ckO σ10 6 l0) <|
          bnd (DX8_keeps l0 σ10) fun _ σ11 =>
          chk (ckO σ11 6 l0) <|
          bnd (DX8_carrierOf l0 l1 l2 σ11) fun v12 σ13 =>
          chk (ckO σ13 6 l0) <|
          chk (ckV (gR σ13 l0 16)) <|
          chk (ckI σ13 (gR σ13 l0 16) (((4 : Int32) * l1) + (3 : Int32))) <|
          chk (ckO σ13 6 l0) <|
          chk (ckV (gR σ13 l0 20)) <|
          chk (ckI σ13 (gR σ13 l0 20) (((64 : Int32) + ((8 : Int32) * l1)) + l2)) <|
          wlet (wI σ13 (gR σ13 l0 20) (((64 : Int32) + ((8 : Int32) * l1)) + l2).toNatClampNeg (1 : Int32)) fun σ14 =>
          chk (ckO σ14 6 l0) <|
          chk (ckV (gR σ14 l0 20)) <|
          chk (ckO σ14 6 l0) <|
          chk (ckV (gR σ14 l0 51)) <|
          chk (ckI σ14 (gR σ14 l0 51) l2) <|
          chk (ckI σ14 (gR σ14 l0 20) (((128 : Int32) + ((8 : Int32) * l1)) + l2)) <|
          wlet (wI σ14 (gR σ14 l0 20) (((128 : Int32) + ((8 : Int32) * l1)) + l2).toNatClampNeg (aI σ14 (gR σ14 l0 51) l2.toNatClampNeg)) fun σ15 =>
          if v12 = (aI σ13 (gR σ13 l0 16) (((4 : Int32) * l1) + (3 : Int32)).toNatClampNeg) then
            DX8_fly_146 l0 l2 σ15
          else
            chk (ckO σ15 6 l0) <|
            chk (ckV (gR σ15 l0 20)) <|
            chk (ckI σ15 (gR σ15 l0 20) (((192 : Int32) + ((6 : Int32) * v12)) + (aI σ13 (gR σ13 l0 16) (((4 : Int32) * l1) + (3 : Int32)).toNatClampNeg))) <|
            chk (ckO σ15 6 l0) <|
            chk (ckV (gR σ15 l0 51)) <|
            chk (ckI σ15 (gR σ15 l0 51) l2) <|
            chk (ckI σ15 (gR σ15 l0 20) (((192 : Int32) + ((6 : Int32) * v12)) + (aI σ13 (gR σ13 l0 16) (((4 : Int32) * l1) + (3 : Int32)).toNatClampNeg))) <|
            wlet (wI σ15 (gR σ15 l0 20) (((192 : Int32) + ((6 : Int32) * v12)) + (aI σ13 (gR σ13 l0 16) (((4 : Int32) * l1) + (3 : Int32)).toNatClampNeg)).toNatClampNeg ((aI σ15 (gR σ15 l0 20) (((192 : Int32) + ((6 : Int32) * v12)) + (aI σ13 (gR σ13 l0 16) (((4 : Int32) * l1) + (3 : Int32)).toNatClampNeg)).toNatClampNeg) + (aI σ15 (gR σ15 l0 51) l2.toNatClampNeg))) fun σ16 =>
            DX8_fly_146 l0 l2 σ16
        else
          some ((-4 : Int32), σ9)
      else
        some ((-3 : Int32), σ7)
    else
      some ((-2 : Int32), σ5)
theorem mX8_fly (E : Ev) (l : Launch) {l0 : Nat} {l1 : Int32} {l2 : Int32} {σ : Sg} {r : Int32} {σ' : Sg} (h : DX8_fly l0 l1 l2 σ = some (r, σ')) : Mt E l yX8_fly cX8_fly 5 (some .int) 7 0 0 [.ref (ad E l0), .int l1, .int l2] σ (some (.int r)) σ' := by
  refine Mt.ofX (by decide) (Nat.le_of_ble_eq_true rfl) (L0 := [some (.ref (ad E l0)), some (.int l1), some (.int l2), none, none]) (xEntN_ok [.ref (ad E l0), .int l1, .int l2] 5) (fun p e s m args below meth c C hr hn => ?_)
  unfold DX8_fly at h
  refine x_aload_n (pc := 0) C dX8_fly_0 rfl rfl ?_
  refine x_iconst (v := 0) (pc := 1) C dX8_fly_1 (by decide) ?_
  obtain ⟨k, h⟩ := chk_s h
  obtain ⟨σ1, e1, h⟩ := wlet_s h
  refine x_putI (pc := 2) C pX8_112 rfl k dX8_fly_2 (x_eq e1 ?_)
  refine x_aload_n (pc := 5) C dX8_fly_5 rfl rfl ?_
  refine x_iload_n (pc := 6) C dX8_fly_6 rfl rfl ?_
  refine x_iload_n (pc := 7) C dX8_fly_7 rfl rfl ?_
  obtain ⟨k, h⟩ := chk_s h
  have k2 := k
  obtain ⟨v2, σ3, k, h⟩ := bnd_s h
  refine x_callV1 (pc := 8) C (mX8_isCoupon E l k) cl6 k2 cX8_393 nX8_isCoupon sX8_isCoupon rfl rfl (Nat.le_of_ble_eq_true rfl) ⟨Nat.le_of_ble_eq_true rfl, Nat.le_of_ble_eq_true rfl, Nat.le_of_ble_eq_true rfl, Nat.le_of_ble_eq_true rfl⟩ dX8_fly_8 ?_
  refine x_if_ne (pc := 11) (tgt := 16) C dX8_fly_11 (by decide) (fun q => ?_) (fun q => ?_)
  · rw [if_pos q] at h
    refine x_iconst (v := -1) (pc := 14) C dX8_fly_14 (by decide) ?_
    cases h
    exact x_iret C hr dX8_fly_15
  · rw [if_neg q] at h
    refine x_aload_n (pc := 16) C dX8_fly_16 rfl rfl ?_
    refine x_iload_n (pc := 17) C dX8_fly_17 rfl rfl ?_
    refine x_iload_n (pc := 18) C dX8_fly_18 rfl rfl ?_
    obtain ⟨k, h⟩ := chk_s h
    have k2 := k
    obtain ⟨v4, σ5, k, h⟩ := bnd_s h
    refine x_callV1 (pc := 19) C (mX8_isFlown E l k) cl6 k2 cX8_345 nX8_isFlown sX8_isFlown rfl rfl (Nat.le_of_ble_eq_true rfl) ⟨Nat.le_of_ble_eq_true rfl, Nat.le_of_ble_eq_true rfl, Nat.le_of_ble_eq_true rfl, Nat.le_of_ble_eq_true rfl⟩ dX8_fly_19 ?_
    refine x_if_eq (pc := 22) (tgt := 28) C dX8_fly_22 (by decide) (fun q => ?_) (fun q => ?_)
    · rw [if_pos q] at h
      refine x_aload_n (pc := 28) C dX8_fly_28 rfl rfl ?_
      refine x_iload_n (pc := 29) C dX8_fly_29 rfl rfl ?_
      obtain ⟨k, h⟩ := chk_s h
      have k2 := k
      obtain ⟨v6, σ7, k, h⟩ := bnd_s h
      refine x_callV1 (pc := 30) C (mX8_isRefunded E l k) cl6 k2 cX8_404 nX8_isRefunded sX8_isRefunded rfl rfl (Nat.le_of_ble_eq_true rfl) ⟨Nat.le_of_ble_eq_true rfl, Nat.le_of_ble_eq_true rfl, Nat.le_of_ble_eq_true rfl, Nat.le_of_ble_eq_true rfl⟩ dX8_fly_30 ?_
      refine x_if_eq (pc := 33) (tgt := 39) C dX8_fly_33 (by decide) (fun q => ?_) (fun q => ?_)
      · rw [if_pos q] at h
        refine x_aload_n (pc := 39) C dX8_fly_39 rfl rfl ?_
        refine x_iload_n (pc := 40) C dX8_fly_40 rfl rfl ?_
        obtain ⟨k, h⟩ := chk_s h
        have k2 := k
        obtain ⟨v8, σ9, k, h⟩ := bnd_s h
        refine x_callV1 (pc := 41) C (mX8_firstToFly E l k) cl6 k2 cX8_407 nX8_firstToFly sX8_firstToFly rfl rfl (Nat.le_of_ble_eq_true rfl) ⟨Nat.le_of_ble_eq_true rfl, Nat.le_of_ble_eq_true rfl, Nat.le_of_ble_eq_true rfl, Nat.le_of_ble_eq_true rfl⟩ dX8_fly_41 ?_
        refine x_iload_n (pc := 44) C dX8_fly_44 rfl rfl ?_
        refine x_icmp_eq (pc := 45) (tgt := 51) C dX8_fly_45 (by decide) (fun q => ?_) (fun q => ?_)
        · rw [if_pos q] at h
          refine x_aload_n (pc := 51) C dX8_fly_51 rfl rfl ?_
          refine x_iload_n (pc := 52) C dX8_fly_52 rfl rfl ?_
          obtain ⟨k, h⟩ := chk_s h
          have k2 := k
          obtain ⟨u0, σ10, k, h⟩ := bnd_s h
          refine x_callV0 (pc := 53) C (mX8_prorates_ E l k) cl6 k2 cX8_396 nX8_prorates_ sX8_prorates_ rfl rfl (Nat.le_of_ble_eq_true rfl) ⟨Nat.le_of_ble_eq_true rfl, Nat.le_of_ble_eq_true rfl, Nat.le_of_ble_eq_true rfl, Nat.le_of_ble_eq_true rfl⟩ dX8_fly_53 ?_
          refine x_aload_n (pc := 56) C dX8_fly_56 rfl rfl ?_
          obtain ⟨k, h⟩ := chk_s h
          have k2 := k
          obtain ⟨u0, σ11, k, h⟩ := bnd_s h
          refine x_callV0 (pc := 57) C (mX8_keeps E l k) cl6 k2 cX8_410 nX8_keeps sX8_keeps rfl rfl (Nat.le_of_ble_eq_true rfl) ⟨Nat.le_of_ble_eq_true rfl, Nat.le_of_ble_eq_true rfl, Nat.le_of_ble_eq_true rfl, Nat.le_of_ble_eq_true rfl⟩ dX8_fly_57 ?_
          refine x_aload_n (pc := 60) C dX8_fly_60 rfl rfl ?_
          refine x_iload_n (pc := 61) C dX8_fly_61 rfl rfl ?_
          refine x_iload_n (pc := 62) C dX8_fly_62 rfl rfl ?_
          obtain ⟨k, h⟩ := chk_s h
          have k2 := k
          obtain ⟨v12, σ13, k, h⟩ := bnd_s h
          refine x_callV1 (pc := 63) C (mX8_carrierOf E l k) cl6 k2 cX8_321 nX8_carrierOf sX8_carrierOf rfl rfl (Nat.le_of_ble_eq_true rfl) ⟨Nat.le_of_ble_eq_true rfl, Nat.le_of_ble_eq_true rfl, Nat.le_of_ble_eq_true rfl, Nat.le_of_ble_eq_true rfl⟩ dX8_fly_63 ?_
          refine x_istore_n (M := [some _, some _, some _, some _, none]) (pc := 66) C dX8_fly_66 rfl (by decide) rfl ?_
          refine x_aload_n (pc := 67) C dX8_fly_67 rfl rfl ?_
          obtain ⟨k, h⟩ := chk_s h
          have k2 := k
          obtain ⟨k, h⟩ := chk_s h
          refine x_getR (pc := 68) C fX8_25 rfl k2 k dX8_fly_68 ?_
          refine x_iconst (v := 4) (pc := 71) C dX8_fly_71 (by decide) ?_
          refine x_iload_n (pc := 72) C dX8_fly_72 rfl rfl ?_
          refine x_imul (pc := 73) C dX8_fly_73 ?_
          refine x_iconst (v := 3) (pc := 74) C dX8_fly_74 (by decide) ?_
          refine x_iadd (pc := 75) C dX8_fly_75 ?_
          obtain ⟨k, h⟩ := chk_s h
          refine x_iald (pc := 76) C k dX8_fly_76 ?_
          refine x_istore (M := [some _, some _, some _, some _, some _]) (pc := 77) C dX8_fly_77 (by decide) rfl ?_
          refine x_aload_n (pc := 79) C dX8_fly_79 rfl rfl ?_
          obtain ⟨k, h⟩ := chk_s h
          have k2 := k
          obtain ⟨k, h⟩ := chk_s h
          refine x_getR (pc := 80) C fX8_37 rfl k2 k dX8_fly_80 ?_
          refine x_bipush (v := 64) (pc := 83) C dX8_fly_83 (by decide) ?_
          refine x_bipush (v := 8) (pc := 85) C dX8_fly_85 (by decide) ?_
          refine x_iload_n (pc := 87) C dX8_fly_87 rfl rfl ?_
          refine x_imul (pc := 88) C dX8_fly_88 ?_
          refine x_iadd (pc := 89) C dX8_fly_89 ?_
          refine x_iload_n (pc := 90) C dX8_fly_90 rfl rfl ?_
          refine x_iadd (pc := 91) C dX8_fly_91 ?_
          refine x_iconst (v := 1) (pc := 92) C dX8_fly_92 (by decide) ?_
          obtain ⟨k, h⟩ := chk_s h
          obtain ⟨σ14, e1, h⟩ := wlet_s h
          refine x_iast (pc := 93) C k dX8_fly_93 (x_eq e1 ?_)
          refine x_aload_n (pc := 94) C dX8_fly_94 rfl rfl ?_
          obtain ⟨k, h⟩ := chk_s h
          have k2 := k
          obtain ⟨k, h⟩ := chk_s h
          refine x_getR (pc := 95) C fX8_37 rfl k2 k dX8_fly_95 ?_
          refine x_sipush (v := 128) (pc := 98) C dX8_fly_98 (by decide) ?_
          refine x_bipush (v := 8) (pc := 101) C dX8_fly_101 (by decide) ?_
          refine x_iload_n (pc := 103) C dX8_fly_103 rfl rfl ?_
          refine x_imul (pc := 104) C dX8_fly_104 ?_
          refine x_iadd (pc := 105) C dX8_fly_105 ?_
          refine x_iload_n (pc := 106) C dX8_fly_106 rfl rfl ?_
          refine x_iadd (pc := 107) C dX8_fly_107 ?_
          refine x_aload_n (pc := 108) C dX8_fly_108 rfl rfl ?_
          obtain ⟨k, h⟩ := chk_s h
          have k2 := k
          obtain ⟨k, h⟩ := chk_s h
          refine x_getR (pc := 109) C fX8_88 rfl k2 k dX8_fly_109 ?_
          refine x_iload_n (pc := 112) C dX8_fly_112 rfl rfl ?_
          obtain ⟨k, h⟩ := chk_s h
          refine x_iald (pc := 113) C k dX8_fly_113 ?_
          obtain ⟨k, h⟩ := chk_s h
          obtain ⟨σ15, e1, h⟩ := wlet_s h
          refine x_iast (pc := 114) C k dX8_fly_114 (x_eq e1 ?_)
          refine x_iload_n (pc := 115) C dX8_fly_115 rfl rfl ?_
          refine x_iload (pc := 116) C dX8_fly_116 rfl ?_
          refine x_icmp_eq (pc := 118) (tgt := 146) C dX8_fly_118 (by decide) (fun q => ?_) (fun q => ?_)
          · rw [if_pos q] at h
            exact x_sub (tX8_fly_146 C hr h) (xLe_s (xLe_n (xLe_s (xLe_n (xLe_n xLe_0)))))
          · rw [if_neg q] at h
            refine x_aload_n (pc := 121) C dX8_fly_121 rfl rfl ?_
            obtain ⟨k, h⟩ := chk_s h
            have k2 := k
            obtain ⟨k, h⟩ := chk_s h
            refine x_getR (pc := 122) C fX8_37 rfl k2 k dX8_fly_122 ?_
            refine x_sipush (v := 192) (pc := 125) C dX8_fly_125 (by decide) ?_
            refine x_bipush (v := 6) (pc := 128) C dX8_fly_128 (by decide) ?_
            refine x_iload_n (pc := 130) C dX8_fly_130 rfl rfl ?_
            refine x_imul (pc := 131) C dX8_fly_131 ?_
            refine x_iadd (pc := 132) C dX8_fly_132 ?_
            refine x_iload (pc := 133) C dX8_fly_133 rfl ?_
            refine x_iadd (pc := 135) C dX8_fly_135 ?_
            refine x_dup2 (pc := 136) C dX8_fly_136 rfl rfl ?_
            obtain ⟨k, h⟩ := chk_s h
            refine x_iald (pc := 137) C k dX8_fly_137 ?_
            refine x_aload_n (pc := 138) C dX8_fly_138 rfl rfl ?_
            obtain ⟨k, h⟩ := chk_s h
            have k2 := k
            obtain ⟨k, h⟩ := chk_s h
            refine x_getR (pc := 139) C fX8_88 rfl k2 k dX8_fly_139 ?_
            refine x_iload_n (pc := 142) C dX8_fly_142 rfl rfl ?_
            obtain ⟨k, h⟩ := chk_s h
            refine x_iald (pc := 143) C k dX8_fly_143 ?_
            refine x_iadd (pc := 144) C dX8_fly_144 ?_
            obtain ⟨k, h⟩ := chk_s h
            obtain ⟨σ16, e1, h⟩ := wlet_s h
            refine x_iast (pc := 145) C k dX8_fly_145 (x_eq e1 ?_)
            exact x_sub (tX8_fly_146 C hr h) (xLe_s (xLe_n (xLe_s (xLe_n (xLe_n xLe_0)))))
        · rw [if_neg q] at h
          refine x_bipush (v := -4) (pc := 48) C dX8_fly_48 (by decide) ?_
          cases h
          exact x_iret C hr dX8_fly_50
      · rw [if_neg q] at h
        refine x_bipush (v := -3) (pc := 36) C dX8_fly_36 (by decide) ?_
        cases h
        exact x_iret C hr dX8_fly_38
    · rw [if_neg q] at h
      refine x_bipush (v := -2) (pc := 25) C dX8_fly_25 (by decide) ?_
      cases h
      exact x_iret C hr dX8_fly_27
def DX8_whyNotEndorsed_17 (σ : Sg) : Option (Int32 × Sg) :=
  some ((-1 : Int32), σ)
theorem tX8_whyNotEndorsed_17 {r : Int32} {σ' : Sg} (C : Cx E p s m args meth c RX8 cX8_whyNotEndorsed 4) (hr : meth.sig.returnType = (some .int)) {σ : Sg} (h : DX8_whyNotEndorsed_17  σ = some (r, σ')) : Y E p l e (rmA 3 0 0) s m args below meth c (some (.int r)) σ' 0 0 4 0 0 σ 17 [none, none, none, none] [] := by
  unfold DX8_whyNotEndorsed_17 at h
  refine x_iconst (v := -1) (pc := 17) C dX8_whyNotEndorsed_17 (by decide) ?_
  cases h
  exact x_iret C hr dX8_whyNotEndorsed_18
def DX8_whyNotEndorsed_47 (s0 : Int32) (σ : Sg) : Option (Int32 × Sg) :=
  some (s0, σ)
theorem tX8_whyNotEndorsed_47 {r : Int32} {σ' : Sg} (C : Cx E p s m args meth c RX8 cX8_whyNotEndorsed 4) (hr : meth.sig.returnType = (some .int)) {s0 : Int32} {σ : Sg} (h : DX8_whyNotEndorsed_47 s0 σ = some (r, σ')) : Y E p l e (rmA 3 0 0) s m args below meth c (some (.int r)) σ' 0 0 4 0 0 σ 47 [none, none, none, none] [.int s0] := by
  unfold DX8_whyNotEndorsed_47 at h
  cases h
  exact x_iret C hr dX8_whyNotEndorsed_47
def DX8_whyNotEndorsed (l0 : Nat) (l1 : Int32) (l2 : Int32) (l3 : Int32) (σ : Sg) : Option (Int32 × Sg) :=
  chk (ckO σ 6 l0) <|
  bnd (DX8_isCoupon l0 l1 l2 σ) fun v1 σ2 =>
  if v1 = 0 then
    DX8_whyNotEndorsed_17 σ2
  else
    chk (ckO σ2 6 l0) <|
    bnd (DX8_isCarrier l0 l3 σ2) fun v3 σ4 =>
    if v3 = 0 then
      DX8_whyNotEndorsed_17 σ4
    else
      chk (ckO σ4 6 l0) <|
      bnd (DX8_isFlown l0 l1 l2 σ4) fun v5 σ6 =>
      if v5 = 0 then
        chk (ckO σ6 6 l0) <|
        bnd (DX8_isRefunded l0 l1 σ6) fun v7 σ8 =>
        if v7 = 0 then
          DX8_whyNotEndorsed_47 (0 : Int32) σ8
        else
          DX8_whyNotEndorsed_47 (-3 : Int32) σ8
      else
        DX8_whyNotEndorsed_47 (-2 : Int32) σ6
theorem mX8_whyNotEndorsed (E : Ev) (l : Launch) {l0 : Nat} {l1 : Int32} {l2 : Int32} {l3 : Int32} {σ : Sg} {r : Int32} {σ' : Sg} (h : DX8_whyNotEndorsed l0 l1 l2 l3 σ = some (r, σ')) : Mt E l yX8_whyNotEndorsed cX8_whyNotEndorsed 4 (some .int) 3 0 0 [.ref (ad E l0), .int l1, .int l2, .int l3] σ (some (.int r)) σ' := by
  refine Mt.ofX (by decide) (Nat.le_of_ble_eq_true rfl) (L0 := [some (.ref (ad E l0)), some (.int l1), some (.int l2), some (.int l3)]) (xEntN_ok [.ref (ad E l0), .int l1, .int l2, .int l3] 4) (fun p e s m args below meth c C hr hn => ?_)
  unfold DX8_whyNotEndorsed at h
  refine x_aload_n (pc := 0) C dX8_whyNotEndorsed_0 rfl rfl ?_
  refine x_iload_n (pc := 1) C dX8_whyNotEndorsed_1 rfl rfl ?_
  refine x_iload_n (pc := 2) C dX8_whyNotEndorsed_2 rfl rfl ?_
  obtain ⟨k, h⟩ := chk_s h
  have k2 := k
  obtain ⟨v1, σ2, k, h⟩ := bnd_s h
  refine x_callV1 (pc := 3) C (mX8_isCoupon E l k) cl6 k2 cX8_393 nX8_isCoupon sX8_isCoupon rfl rfl (Nat.le_of_ble_eq_true rfl) ⟨Nat.le_of_ble_eq_true rfl, Nat.le_of_ble_eq_true rfl, Nat.le_of_ble_eq_true rfl, Nat.le_of_ble_eq_true rfl⟩ dX8_whyNotEndorsed_3 ?_
  refine x_if_eq (pc := 6) (tgt := 17) C dX8_whyNotEndorsed_6 (by decide) (fun q => ?_) (fun q => ?_)
  · rw [if_pos q] at h
    exact x_sub (tX8_whyNotEndorsed_17 C hr h) (xLe_n (xLe_n (xLe_n (xLe_n xLe_0))))
  · rw [if_neg q] at h
    refine x_aload_n (pc := 9) C dX8_whyNotEndorsed_9 rfl rfl ?_
    refine x_iload_n (pc := 10) C dX8_whyNotEndorsed_10 rfl rfl ?_
    obtain ⟨k, h⟩ := chk_s h
    have k2 := k
    obtain ⟨v3, σ4, k, h⟩ := bnd_s h
    refine x_callV1 (pc := 11) C (mX8_isCarrier E l k) cl6 k2 cX8_315 nX8_isCarrier sX8_isCarrier rfl rfl (Nat.le_of_ble_eq_true rfl) ⟨Nat.le_of_ble_eq_true rfl, Nat.le_of_ble_eq_true rfl, Nat.le_of_ble_eq_true rfl, Nat.le_of_ble_eq_true rfl⟩ dX8_whyNotEndorsed_11 ?_
    refine x_if_ne (pc := 14) (tgt := 19) C dX8_whyNotEndorsed_14 (by decide) (fun q => ?_) (fun q => ?_)
    · rw [if_pos q] at h
      exact x_sub (tX8_whyNotEndorsed_17 C hr h) (xLe_n (xLe_n (xLe_n (xLe_n xLe_0))))
    · rw [if_neg q] at h
      refine x_aload_n (pc := 19) C dX8_whyNotEndorsed_19 rfl rfl ?_
      refine x_iload_n (pc := 20) C dX8_whyNotEndorsed_20 rfl rfl ?_
      refine x_iload_n (pc := 21) C dX8_whyNotEndorsed_21 rfl rfl ?_
      obtain ⟨k, h⟩ := chk_s h
      have k2 := k
      obtain ⟨v5, σ6, k, h⟩ := bnd_s h
      refine x_callV1 (pc := 22) C (mX8_isFlown E l k) cl6 k2 cX8_345 nX8_isFlown sX8_isFlown rfl rfl (Nat.le_of_ble_eq_true rfl) ⟨Nat.le_of_ble_eq_true rfl, Nat.le_of_ble_eq_true rfl, Nat.le_of_ble_eq_true rfl, Nat.le_of_ble_eq_true rfl⟩ dX8_whyNotEndorsed_22 ?_
      refine x_if_eq (pc := 25) (tgt := 33) C dX8_whyNotEndorsed_25 (by decide) (fun q => ?_) (fun q => ?_)
      · rw [if_pos q] at h
        refine x_aload_n (pc := 33) C dX8_whyNotEndorsed_33 rfl rfl ?_
        refine x_iload_n (pc := 34) C dX8_whyNotEndorsed_34 rfl rfl ?_
        obtain ⟨k, h⟩ := chk_s h
        have k2 := k
        obtain ⟨v7, σ8, k, h⟩ := bnd_s h
        refine x_callV1 (pc := 35) C (mX8_isRefunded E l k) cl6 k2 cX8_404 nX8_isRefunded sX8_isRefunded rfl rfl (Nat.le_of_ble_eq_true rfl) ⟨Nat.le_of_ble_eq_true rfl, Nat.le_of_ble_eq_true rfl, Nat.le_of_ble_eq_true rfl, Nat.le_of_ble_eq_true rfl⟩ dX8_whyNotEndorsed_35 ?_
        refine x_if_eq (pc := 38) (tgt := 46) C dX8_whyNotEndorsed_38 (by decide) (fun q => ?_) (fun q => ?_)
        · rw [if_pos q] at h
          refine x_iconst (v := 0) (pc := 46) C dX8_whyNotEndorsed_46 (by decide) ?_
          exact x_sub (tX8_whyNotEndorsed_47 C hr h) (xLe_n (xLe_n (xLe_n (xLe_n xLe_0))))
        · rw [if_neg q] at h
          refine x_bipush (v := -3) (pc := 41) C dX8_whyNotEndorsed_41 (by decide) ?_
          refine x_goto (tgt := 47) (pc := 43) C dX8_whyNotEndorsed_43 (by decide) ?_
          exact x_sub (tX8_whyNotEndorsed_47 C hr h) (xLe_n (xLe_n (xLe_n (xLe_n xLe_0))))
      · rw [if_neg q] at h
        refine x_bipush (v := -2) (pc := 28) C dX8_whyNotEndorsed_28 (by decide) ?_
        refine x_goto (tgt := 47) (pc := 30) C dX8_whyNotEndorsed_30 (by decide) ?_
        exact x_sub (tX8_whyNotEndorsed_47 C hr h) (xLe_n (xLe_n (xLe_n (xLe_n xLe_0))))
def DX8_endorse (l0 : Nat) (l1 : Int32) (l2 : Int32) (l3 : Int32) (σ : Sg) : Option (Int32 × Sg) :=
  chk (ckO σ 6 l0) <|
  wlet (pI σ l0 0 (0 : Int32)) fun σ1 =>
  chk (ckO σ1 6 l0) <|
  bnd (DX8_whyNotEndorsed l0 l1 l2 l3 σ1) fun v2 σ3 =>
  if 0 ≤ v2 then
    chk (ckO σ3 6 l0) <|
    bnd (DX8_carrierOf l0 l1 l2 σ3) fun v4 σ5 =>
    if v4 = l3 then
      some ((-4 : Int32), σ5)
    else
      chk (ckO σ5 6 l0) <|
      bnd (DX8_keeps l0 σ5) fun _ σ6 =>
      chk (ckO σ6 6 l0) <|
      chk (ckV (gR σ6 l0 20)) <|
      chk (ckI σ6 (gR σ6 l0 20) (((0 : Int32) + ((8 : Int32) * l1)) + l2)) <|
      wlet (wI σ6 (gR σ6 l0 20) (((0 : Int32) + ((8 : Int32) * l1)) + l2).toNatClampNeg l3) fun σ7 =>
      chk (ckO σ7 6 l0) <|
      bnd (DX8_prorates_ l0 l1 σ7) fun _ σ8 =>
      chk (ckO σ8 6 l0) <|
      chk (ckV (gR σ8 l0 51)) <|
      chk (ckI σ8 (gR σ8 l0 51) l2) <|
      some ((aI σ8 (gR σ8 l0 51) l2.toNatClampNeg), σ8)
  else
    some (v2, σ3)
theorem mX8_endorse (E : Ev) (l : Launch) {l0 : Nat} {l1 : Int32} {l2 : Int32} {l3 : Int32} {σ : Sg} {r : Int32} {σ' : Sg} (h : DX8_endorse l0 l1 l2 l3 σ = some (r, σ')) : Mt E l yX8_endorse cX8_endorse 5 (some .int) 7 0 0 [.ref (ad E l0), .int l1, .int l2, .int l3] σ (some (.int r)) σ' := by
  refine Mt.ofX (by decide) (Nat.le_of_ble_eq_true rfl) (L0 := [some (.ref (ad E l0)), some (.int l1), some (.int l2), some (.int l3), none]) (xEntN_ok [.ref (ad E l0), .int l1, .int l2, .int l3] 5) (fun p e s m args below meth c C hr hn => ?_)
  unfold DX8_endorse at h
  refine x_aload_n (pc := 0) C dX8_endorse_0 rfl rfl ?_
  refine x_iconst (v := 0) (pc := 1) C dX8_endorse_1 (by decide) ?_
  obtain ⟨k, h⟩ := chk_s h
  obtain ⟨σ1, e1, h⟩ := wlet_s h
  refine x_putI (pc := 2) C pX8_112 rfl k dX8_endorse_2 (x_eq e1 ?_)
  refine x_aload_n (pc := 5) C dX8_endorse_5 rfl rfl ?_
  refine x_iload_n (pc := 6) C dX8_endorse_6 rfl rfl ?_
  refine x_iload_n (pc := 7) C dX8_endorse_7 rfl rfl ?_
  refine x_iload_n (pc := 8) C dX8_endorse_8 rfl rfl ?_
  obtain ⟨k, h⟩ := chk_s h
  have k2 := k
  obtain ⟨v2, σ3, k, h⟩ := bnd_s h
  refine x_callV1 (pc := 9) C (mX8_whyNotEndorsed E l k) cl6 k2 cX8_413 nX8_whyNotEndorsed sX8_whyNotEndorsed rfl rfl (Nat.le_of_ble_eq_true rfl) ⟨Nat.le_of_ble_eq_true rfl, Nat.le_of_ble_eq_true rfl, Nat.le_of_ble_eq_true rfl, Nat.le_of_ble_eq_true rfl⟩ dX8_endorse_9 ?_
  refine x_istore (M := [some _, some _, some _, some _, some _]) (pc := 12) C dX8_endorse_12 (by decide) rfl ?_
  refine x_iload (pc := 14) C dX8_endorse_14 rfl ?_
  refine x_if_ge (pc := 16) (tgt := 22) C dX8_endorse_16 (by decide) (fun q => ?_) (fun q => ?_)
  · rw [if_pos q] at h
    refine x_aload_n (pc := 22) C dX8_endorse_22 rfl rfl ?_
    refine x_iload_n (pc := 23) C dX8_endorse_23 rfl rfl ?_
    refine x_iload_n (pc := 24) C dX8_endorse_24 rfl rfl ?_
    obtain ⟨k, h⟩ := chk_s h
    have k2 := k
    obtain ⟨v4, σ5, k, h⟩ := bnd_s h
    refine x_callV1 (pc := 25) C (mX8_carrierOf E l k) cl6 k2 cX8_321 nX8_carrierOf sX8_carrierOf rfl rfl (Nat.le_of_ble_eq_true rfl) ⟨Nat.le_of_ble_eq_true rfl, Nat.le_of_ble_eq_true rfl, Nat.le_of_ble_eq_true rfl, Nat.le_of_ble_eq_true rfl⟩ dX8_endorse_25 ?_
    refine x_iload_n (pc := 28) C dX8_endorse_28 rfl rfl ?_
    refine x_icmp_ne (pc := 29) (tgt := 35) C dX8_endorse_29 (by decide) (fun q => ?_) (fun q => ?_)
    · rw [if_pos q] at h
      refine x_bipush (v := -4) (pc := 32) C dX8_endorse_32 (by decide) ?_
      cases h
      exact x_iret C hr dX8_endorse_34
    · rw [if_neg q] at h
      refine x_aload_n (pc := 35) C dX8_endorse_35 rfl rfl ?_
      obtain ⟨k, h⟩ := chk_s h
      have k2 := k
      obtain ⟨u0, σ6, k, h⟩ := bnd_s h
      refine x_callV0 (pc := 36) C (mX8_keeps E l k) cl6 k2 cX8_410 nX8_keeps sX8_keeps rfl rfl (Nat.le_of_ble_eq_true rfl) ⟨Nat.le_of_ble_eq_true rfl, Nat.le_of_ble_eq_true rfl, Nat.le_of_ble_eq_true rfl, Nat.le_of_ble_eq_true rfl⟩ dX8_endorse_36 ?_
      refine x_aload_n (pc := 39) C dX8_endorse_39 rfl rfl ?_
      obtain ⟨k, h⟩ := chk_s h
      have k2 := k
      obtain ⟨k, h⟩ := chk_s h
      refine x_getR (pc := 40) C fX8_37 rfl k2 k dX8_endorse_40 ?_
      refine x_iconst (v := 0) (pc := 43) C dX8_endorse_43 (by decide) ?_
      refine x_bipush (v := 8) (pc := 44) C dX8_endorse_44 (by decide) ?_
      refine x_iload_n (pc := 46) C dX8_endorse_46 rfl rfl ?_
      refine x_imul (pc := 47) C dX8_endorse_47 ?_
      refine x_iadd (pc := 48) C dX8_endorse_48 ?_
      refine x_iload_n (pc := 49) C dX8_endorse_49 rfl rfl ?_
      refine x_iadd (pc := 50) C dX8_endorse_50 ?_
      refine x_iload_n (pc := 51) C dX8_endorse_51 rfl rfl ?_
      obtain ⟨k, h⟩ := chk_s h
      obtain ⟨σ7, e1, h⟩ := wlet_s h
      refine x_iast (pc := 52) C k dX8_endorse_52 (x_eq e1 ?_)
      refine x_aload_n (pc := 53) C dX8_endorse_53 rfl rfl ?_
      refine x_iload_n (pc := 54) C dX8_endorse_54 rfl rfl ?_
      obtain ⟨k, h⟩ := chk_s h
      have k2 := k
      obtain ⟨u0, σ8, k, h⟩ := bnd_s h
      refine x_callV0 (pc := 55) C (mX8_prorates_ E l k) cl6 k2 cX8_396 nX8_prorates_ sX8_prorates_ rfl rfl (Nat.le_of_ble_eq_true rfl) ⟨Nat.le_of_ble_eq_true rfl, Nat.le_of_ble_eq_true rfl, Nat.le_of_ble_eq_true rfl, Nat.le_of_ble_eq_true rfl⟩ dX8_endorse_55 ?_
      refine x_aload_n (pc := 58) C dX8_endorse_58 rfl rfl ?_
      obtain ⟨k, h⟩ := chk_s h
      have k2 := k
      obtain ⟨k, h⟩ := chk_s h
      refine x_getR (pc := 59) C fX8_88 rfl k2 k dX8_endorse_59 ?_
      refine x_iload_n (pc := 62) C dX8_endorse_62 rfl rfl ?_
      obtain ⟨k, h⟩ := chk_s h
      refine x_iald (pc := 63) C k dX8_endorse_63 ?_
      cases h
      exact x_iret C hr dX8_endorse_64
  · rw [if_neg q] at h
    refine x_iload (pc := 19) C dX8_endorse_19 rfl ?_
    cases h
    exact x_iret C hr dX8_endorse_21
def DX8_leftOf_38 (K9 : Nat → Int32 → Int32 → Int32 → Sg → Option (Int32 × Sg)) (l0 : Nat) (l1 : Int32) (l3 : Int32) (s0 : Int32) (s1 : Int32) (σ : Sg) : Option (Int32 × Sg) :=
  K9 l0 l1 (s0 + s1) (l3 + (1 : Int32)) σ
theorem tX8_leftOf_38 {r : Int32} {σ' : Sg} (C : Cx E p s m args meth c RX8 cX8_leftOf 4) (hr : meth.sig.returnType = (some .int)) {K9 : Nat → Int32 → Int32 → Int32 → Sg → Option (Int32 × Sg)} (hK9 : ∀ (l0 : Nat) (l1 : Int32) (l2 : Int32) (l3 : Int32) (σ : Sg), K9 l0 l1 l2 l3 σ = some (r, σ') → Y E p l e (rmA 7 0 0) s m args below meth c (some (.int r)) σ' 0 0 4 0 0 σ 9 [some (.ref (ad E l0)), some (.int l1), some (.int l2), some (.int l3)] []) {l0 : Nat} {l1 : Int32} {l3 : Int32} {s0 : Int32} {s1 : Int32} {σ : Sg} (h : DX8_leftOf_38 K9 l0 l1 l3 s0 s1 σ = some (r, σ')) : Y E p l e (rmA 7 0 0) s m args below meth c (some (.int r)) σ' 0 0 4 0 0 σ 38 [some (.ref (ad E l0)), some (.int l1), none, some (.int l3)] [.int s1, .int s0] := by
  unfold DX8_leftOf_38 at h
  refine x_iadd (pc := 38) C dX8_leftOf_38 ?_
  refine x_istore_n (M := [some _, some _, some _, some _]) (pc := 39) C dX8_leftOf_39 rfl (by decide) rfl ?_
  refine x_iinc (v := 1) (M := [some _, some _, some _, some _]) (pc := 40) C dX8_leftOf_40 rfl (by decide) (by decide) rfl ?_
  refine x_goto (tgt := 9) (pc := 43) C dX8_leftOf_43 (by decide) ?_
  exact x_sub (hK9 _ _ _ _ _ h) (xLe_s (xLe_s (xLe_s (xLe_s xLe_0))))
def DX8_leftOf_46 (l2 : Int32) (σ : Sg) : Option (Int32 × Sg) :=
  some (l2, σ)
theorem tX8_leftOf_46 {r : Int32} {σ' : Sg} (C : Cx E p s m args meth c RX8 cX8_leftOf 4) (hr : meth.sig.returnType = (some .int)) {l2 : Int32} {σ : Sg} (h : DX8_leftOf_46 l2 σ = some (r, σ')) : Y E p l e (rmA 7 0 0) s m args below meth c (some (.int r)) σ' 0 0 4 0 0 σ 46 [none, none, some (.int l2), none] [] := by
  unfold DX8_leftOf_46 at h
  refine x_iload_n (pc := 46) C dX8_leftOf_46 rfl rfl ?_
  cases h
  exact x_iret C hr dX8_leftOf_47
def DX8_leftOf_9 : Nat → Nat → Int32 → Int32 → Int32 → Sg → Option (Int32 × Sg)
  | 0, _, _, _, _, _ => none
  | n + 1, l0, l1, l2, l3, σ =>
    chk (ckO σ 6 l0) <|
    bnd (DX8_couponsOf l0 l1 σ) fun v1 σ2 =>
    if v1 ≤ l3 then
      DX8_leftOf_46 l2 σ2
    else
      chk (ckO σ2 6 l0) <|
      bnd (DX8_isFlown l0 l1 l3 σ2) fun v3 σ4 =>
      if v3 = 0 then
        chk (ckO σ4 6 l0) <|
        chk (ckV (gR σ4 l0 51)) <|
        chk (ckI σ4 (gR σ4 l0 51) l3) <|
        DX8_leftOf_38 (DX8_leftOf_9 n) l0 l1 l3 l2 (aI σ4 (gR σ4 l0 51) l3.toNatClampNeg) σ4
      else
        DX8_leftOf_38 (DX8_leftOf_9 n) l0 l1 l3 l2 (0 : Int32) σ4
theorem tX8_leftOf_9 {r : Int32} {σ' : Sg} (C : Cx E p s m args meth c RX8 cX8_leftOf 4) (hr : meth.sig.returnType = (some .int)) : ∀ (n : Nat) (l0 : Nat) (l1 : Int32) (l2 : Int32) (l3 : Int32) (σ : Sg) (h : DX8_leftOf_9 n l0 l1 l2 l3 σ = some (r, σ')), Y E p l e (rmA 7 0 0) s m args below meth c (some (.int r)) σ' 0 0 4 0 0 σ 9 [some (.ref (ad E l0)), some (.int l1), some (.int l2), some (.int l3)] [] := by
  intro n
  induction n with
  | zero => intro l0 l1 l2 l3 σ h; cases h
  | succ n ih =>
    intro l0 l1 l2 l3 σ h
    unfold DX8_leftOf_9 at h
    refine x_iload_n (pc := 9) C dX8_leftOf_9 rfl rfl ?_
    refine x_aload_n (pc := 10) C dX8_leftOf_10 rfl rfl ?_
    refine x_iload_n (pc := 11) C dX8_leftOf_11 rfl rfl ?_
    obtain ⟨k, h⟩ := chk_s h
    have k2 := k
    obtain ⟨v1, σ2, k, h⟩ := bnd_s h
    refine x_callV1 (pc := 12) C (mX8_couponsOf E l k) cl6 k2 cX8_301 nX8_couponsOf sX8_couponsOf rfl rfl (Nat.le_of_ble_eq_true rfl) ⟨Nat.le_of_ble_eq_true rfl, Nat.le_of_ble_eq_true rfl, Nat.le_of_ble_eq_true rfl, Nat.le_of_ble_eq_true rfl⟩ dX8_leftOf_12 ?_
    refine x_icmp_ge (pc := 15) (tgt := 46) C dX8_leftOf_15 (by decide) (fun q => ?_) (fun q => ?_)
    · rw [if_pos q] at h
      exact x_sub (tX8_leftOf_46 C hr h) (xLe_n (xLe_n (xLe_s (xLe_n xLe_0))))
    · rw [if_neg q] at h
      refine x_iload_n (pc := 18) C dX8_leftOf_18 rfl rfl ?_
      refine x_aload_n (pc := 19) C dX8_leftOf_19 rfl rfl ?_
      refine x_iload_n (pc := 20) C dX8_leftOf_20 rfl rfl ?_
      refine x_iload_n (pc := 21) C dX8_leftOf_21 rfl rfl ?_
      obtain ⟨k, h⟩ := chk_s h
      have k2 := k
      obtain ⟨v3, σ4, k, h⟩ := bnd_s h
      refine x_callV1 (pc := 22) C (mX8_isFlown E l k) cl6 k2 cX8_345 nX8_isFlown sX8_isFlown rfl rfl (Nat.le_of_ble_eq_true rfl) ⟨Nat.le_of_ble_eq_true rfl, Nat.le_of_ble_eq_true rfl, Nat.le_of_ble_eq_true rfl, Nat.le_of_ble_eq_true rfl⟩ dX8_leftOf_22 ?_
      refine x_if_eq (pc := 25) (tgt := 32) C dX8_leftOf_25 (by decide) (fun q => ?_) (fun q => ?_)
      · rw [if_pos q] at h
        refine x_aload_n (pc := 32) C dX8_leftOf_32 rfl rfl ?_
        obtain ⟨k, h⟩ := chk_s h
        have k2 := k
        obtain ⟨k, h⟩ := chk_s h
        refine x_getR (pc := 33) C fX8_88 rfl k2 k dX8_leftOf_33 ?_
        refine x_iload_n (pc := 36) C dX8_leftOf_36 rfl rfl ?_
        obtain ⟨k, h⟩ := chk_s h
        refine x_iald (pc := 37) C k dX8_leftOf_37 ?_
        exact x_sub (tX8_leftOf_38 C hr ih h) (xLe_s (xLe_s (xLe_n (xLe_s xLe_0))))
      · rw [if_neg q] at h
        refine x_iconst (v := 0) (pc := 28) C dX8_leftOf_28 (by decide) ?_
        refine x_goto (tgt := 38) (pc := 29) C dX8_leftOf_29 (by decide) ?_
        exact x_sub (tX8_leftOf_38 C hr ih h) (xLe_s (xLe_s (xLe_n (xLe_s xLe_0))))
def DX8_leftOf (l0 : Nat) (l1 : Int32) (σ : Sg) : Option (Int32 × Sg) :=
  chk (ckO σ 6 l0) <|
  bnd (DX8_prorates_ l0 l1 σ) fun _ σ1 =>
  DX8_leftOf_9 FU l0 l1 (0 : Int32) (0 : Int32) σ1
theorem mX8_leftOf (E : Ev) (l : Launch) {l0 : Nat} {l1 : Int32} {σ : Sg} {r : Int32} {σ' : Sg} (h : DX8_leftOf l0 l1 σ = some (r, σ')) : Mt E l yX8_leftOf cX8_leftOf 4 (some .int) 7 0 0 [.ref (ad E l0), .int l1] σ (some (.int r)) σ' := by
  refine Mt.ofX (by decide) (Nat.le_of_ble_eq_true rfl) (L0 := [some (.ref (ad E l0)), some (.int l1), none, none]) (xEntN_ok [.ref (ad E l0), .int l1] 4) (fun p e s m args below meth c C hr hn => ?_)
  unfold DX8_leftOf at h
  refine x_aload_n (pc := 0) C dX8_leftOf_0 rfl rfl ?_
  refine x_iload_n (pc := 1) C dX8_leftOf_1 rfl rfl ?_
  obtain ⟨k, h⟩ := chk_s h
  have k2 := k
  obtain ⟨u0, σ1, k, h⟩ := bnd_s h
  refine x_callV0 (pc := 2) C (mX8_prorates_ E l k) cl6 k2 cX8_396 nX8_prorates_ sX8_prorates_ rfl rfl (Nat.le_of_ble_eq_true rfl) ⟨Nat.le_of_ble_eq_true rfl, Nat.le_of_ble_eq_true rfl, Nat.le_of_ble_eq_true rfl, Nat.le_of_ble_eq_true rfl⟩ dX8_leftOf_2 ?_
  refine x_iconst (v := 0) (pc := 5) C dX8_leftOf_5 (by decide) ?_
  refine x_istore_n (M := [some _, some _, some _, none]) (pc := 6) C dX8_leftOf_6 rfl (by decide) rfl ?_
  refine x_iconst (v := 0) (pc := 7) C dX8_leftOf_7 (by decide) ?_
  refine x_istore_n (M := [some _, some _, some _, some _]) (pc := 8) C dX8_leftOf_8 rfl (by decide) rfl ?_
  exact x_sub (tX8_leftOf_9 C hr FU _ _ _ _ _ h) (xLe_s (xLe_s (xLe_s (xLe_s xLe_0))))
def DX8_refund (l0 : Nat) (l1 : Int32) (σ : Sg) : Option (Int32 × Sg) :=
  chk (ckO σ 6 l0) <|
  wlet (pI σ l0 0 (0 : Int32)) fun σ1 =>
  chk (ckO σ1 6 l0) <|
  bnd (DX8_isTicket l0 l1 σ1) fun v2 σ3 =>
  if v2 = 0 then
    some ((-1 : Int32), σ3)
  else
    chk (ckO σ3 6 l0) <|
    bnd (DX8_flownOf l0 l1 σ3) fun v4 σ5 =>
    chk (ckO σ5 6 l0) <|
    bnd (DX8_couponsOf l0 l1 σ5) fun v6 σ7 =>
    if v4 = v6 then
      some ((-2 : Int32), σ7)
    else
      chk (ckO σ7 6 l0) <|
      bnd (DX8_isRefunded l0 l1 σ7) fun v8 σ9 =>
      if v8 = 0 then
        chk (ckO σ9 6 l0) <|
        bnd (DX8_keeps l0 σ9) fun _ σ10 =>
        chk (ckO σ10 6 l0) <|
        chk (ckV (gR σ10 l0 20)) <|
        chk (ckI σ10 (gR σ10 l0 20) ((234 : Int32) + l1)) <|
        wlet (wI σ10 (gR σ10 l0 20) ((234 : Int32) + l1).toNatClampNeg (1 : Int32)) fun σ11 =>
        chk (ckO σ11 6 l0) <|
        bnd (DX8_leftOf l0 l1 σ11) fun v12 σ13 =>
        some (v12, σ13)
      else
        some ((-3 : Int32), σ9)
theorem mX8_refund (E : Ev) (l : Launch) {l0 : Nat} {l1 : Int32} {σ : Sg} {r : Int32} {σ' : Sg} (h : DX8_refund l0 l1 σ = some (r, σ')) : Mt E l yX8_refund cX8_refund 2 (some .int) 8 0 0 [.ref (ad E l0), .int l1] σ (some (.int r)) σ' := by
  refine Mt.ofX (by decide) (Nat.le_of_ble_eq_true rfl) (L0 := [some (.ref (ad E l0)), some (.int l1)]) (xEntN_ok [.ref (ad E l0), .int l1] 2) (fun p e s m args below meth c C hr hn => ?_)
  unfold DX8_refund at h
  refine x_aload_n (pc := 0) C dX8_refund_0 rfl rfl ?_
  refine x_iconst (v := 0) (pc := 1) C dX8_refund_1 (by decide) ?_
  obtain ⟨k, h⟩ := chk_s h
  obtain ⟨σ1, e1, h⟩ := wlet_s h
  refine x_putI (pc := 2) C pX8_112 rfl k dX8_refund_2 (x_eq e1 ?_)
  refine x_aload_n (pc := 5) C dX8_refund_5 rfl rfl ?_
  refine x_iload_n (pc := 6) C dX8_refund_6 rfl rfl ?_
  obtain ⟨k, h⟩ := chk_s h
  have k2 := k
  obtain ⟨v2, σ3, k, h⟩ := bnd_s h
  refine x_callV1 (pc := 7) C (mX8_isTicket E l k) cl6 k2 cX8_298 nX8_isTicket sX8_isTicket rfl rfl (Nat.le_of_ble_eq_true rfl) ⟨Nat.le_of_ble_eq_true rfl, Nat.le_of_ble_eq_true rfl, Nat.le_of_ble_eq_true rfl, Nat.le_of_ble_eq_true rfl⟩ dX8_refund_7 ?_
  refine x_if_ne (pc := 10) (tgt := 15) C dX8_refund_10 (by decide) (fun q => ?_) (fun q => ?_)
  · rw [if_pos q] at h
    refine x_iconst (v := -1) (pc := 13) C dX8_refund_13 (by decide) ?_
    cases h
    exact x_iret C hr dX8_refund_14
  · rw [if_neg q] at h
    refine x_aload_n (pc := 15) C dX8_refund_15 rfl rfl ?_
    refine x_iload_n (pc := 16) C dX8_refund_16 rfl rfl ?_
    obtain ⟨k, h⟩ := chk_s h
    have k2 := k
    obtain ⟨v4, σ5, k, h⟩ := bnd_s h
    refine x_callV1 (pc := 17) C (mX8_flownOf E l k) cl6 k2 cX8_390 nX8_flownOf sX8_flownOf rfl rfl (Nat.le_of_ble_eq_true rfl) ⟨Nat.le_of_ble_eq_true rfl, Nat.le_of_ble_eq_true rfl, Nat.le_of_ble_eq_true rfl, Nat.le_of_ble_eq_true rfl⟩ dX8_refund_17 ?_
    refine x_aload_n (pc := 20) C dX8_refund_20 rfl rfl ?_
    refine x_iload_n (pc := 21) C dX8_refund_21 rfl rfl ?_
    obtain ⟨k, h⟩ := chk_s h
    have k2 := k
    obtain ⟨v6, σ7, k, h⟩ := bnd_s h
    refine x_callV1 (pc := 22) C (mX8_couponsOf E l k) cl6 k2 cX8_301 nX8_couponsOf sX8_couponsOf rfl rfl (Nat.le_of_ble_eq_true rfl) ⟨Nat.le_of_ble_eq_true rfl, Nat.le_of_ble_eq_true rfl, Nat.le_of_ble_eq_true rfl, Nat.le_of_ble_eq_true rfl⟩ dX8_refund_22 ?_
    refine x_icmp_ne (pc := 25) (tgt := 31) C dX8_refund_25 (by decide) (fun q => ?_) (fun q => ?_)
    · rw [if_pos q] at h
      refine x_bipush (v := -2) (pc := 28) C dX8_refund_28 (by decide) ?_
      cases h
      exact x_iret C hr dX8_refund_30
    · rw [if_neg q] at h
      refine x_aload_n (pc := 31) C dX8_refund_31 rfl rfl ?_
      refine x_iload_n (pc := 32) C dX8_refund_32 rfl rfl ?_
      obtain ⟨k, h⟩ := chk_s h
      have k2 := k
      obtain ⟨v8, σ9, k, h⟩ := bnd_s h
      refine x_callV1 (pc := 33) C (mX8_isRefunded E l k) cl6 k2 cX8_404 nX8_isRefunded sX8_isRefunded rfl rfl (Nat.le_of_ble_eq_true rfl) ⟨Nat.le_of_ble_eq_true rfl, Nat.le_of_ble_eq_true rfl, Nat.le_of_ble_eq_true rfl, Nat.le_of_ble_eq_true rfl⟩ dX8_refund_33 ?_
      refine x_if_eq (pc := 36) (tgt := 42) C dX8_refund_36 (by decide) (fun q => ?_) (fun q => ?_)
      · rw [if_pos q] at h
        refine x_aload_n (pc := 42) C dX8_refund_42 rfl rfl ?_
        obtain ⟨k, h⟩ := chk_s h
        have k2 := k
        obtain ⟨u0, σ10, k, h⟩ := bnd_s h
        refine x_callV0 (pc := 43) C (mX8_keeps E l k) cl6 k2 cX8_410 nX8_keeps sX8_keeps rfl rfl (Nat.le_of_ble_eq_true rfl) ⟨Nat.le_of_ble_eq_true rfl, Nat.le_of_ble_eq_true rfl, Nat.le_of_ble_eq_true rfl, Nat.le_of_ble_eq_true rfl⟩ dX8_refund_43 ?_
        refine x_aload_n (pc := 46) C dX8_refund_46 rfl rfl ?_
        obtain ⟨k, h⟩ := chk_s h
        have k2 := k
        obtain ⟨k, h⟩ := chk_s h
        refine x_getR (pc := 47) C fX8_37 rfl k2 k dX8_refund_47 ?_
        refine x_sipush (v := 234) (pc := 50) C dX8_refund_50 (by decide) ?_
        refine x_iload_n (pc := 53) C dX8_refund_53 rfl rfl ?_
        refine x_iadd (pc := 54) C dX8_refund_54 ?_
        refine x_iconst (v := 1) (pc := 55) C dX8_refund_55 (by decide) ?_
        obtain ⟨k, h⟩ := chk_s h
        obtain ⟨σ11, e1, h⟩ := wlet_s h
        refine x_iast (pc := 56) C k dX8_refund_56 (x_eq e1 ?_)
        refine x_aload_n (pc := 57) C dX8_refund_57 rfl rfl ?_
        refine x_iload_n (pc := 58) C dX8_refund_58 rfl rfl ?_
        obtain ⟨k, h⟩ := chk_s h
        have k2 := k
        obtain ⟨v12, σ13, k, h⟩ := bnd_s h
        refine x_callV1 (pc := 59) C (mX8_leftOf E l k) cl6 k2 cX8_416 nX8_leftOf sX8_leftOf rfl rfl (Nat.le_of_ble_eq_true rfl) ⟨Nat.le_of_ble_eq_true rfl, Nat.le_of_ble_eq_true rfl, Nat.le_of_ble_eq_true rfl, Nat.le_of_ble_eq_true rfl⟩ dX8_refund_59 ?_
        cases h
        exact x_iret C hr dX8_refund_62
      · rw [if_neg q] at h
        refine x_bipush (v := -3) (pc := 39) C dX8_refund_39 (by decide) ?_
        cases h
        exact x_iret C hr dX8_refund_41
def DX8_netOf_52 (l2 : Int32) (σ : Sg) : Option (Int32 × Sg) :=
  some (l2, σ)
theorem tX8_netOf_52 {r : Int32} {σ' : Sg} (C : Cx E p s m args meth c RX8 cX8_netOf 4) (hr : meth.sig.returnType = (some .int)) {l2 : Int32} {σ : Sg} (h : DX8_netOf_52 l2 σ = some (r, σ')) : Y E p l e (rmA 1 0 0) s m args below meth c (some (.int r)) σ' 0 0 4 0 0 σ 52 [none, none, some (.int l2), none] [] := by
  unfold DX8_netOf_52 at h
  refine x_iload_n (pc := 52) C dX8_netOf_52 rfl rfl ?_
  cases h
  exact x_iret C hr dX8_netOf_53
def DX8_netOf_4 : Nat → Nat → Int32 → Int32 → Int32 → Sg → Option (Int32 × Sg)
  | 0, _, _, _, _, _ => none
  | n + 1, l0, l1, l2, l3, σ =>
    chk (ckO σ 6 l0) <|
    if (gI σ l0 4) ≤ l3 then
      DX8_netOf_52 l2 σ
    else
      chk (ckO σ 6 l0) <|
      chk (ckV (gR σ l0 20)) <|
      chk (ckI σ (gR σ l0 20) (((192 : Int32) + ((6 : Int32) * l1)) + l3)) <|
      chk (ckO σ 6 l0) <|
      chk (ckV (gR σ l0 20)) <|
      chk (ckI σ (gR σ l0 20) (((192 : Int32) + ((6 : Int32) * l3)) + l1)) <|
      DX8_netOf_4 n l0 l1 (l2 + ((aI σ (gR σ l0 20) (((192 : Int32) + ((6 : Int32) * l1)) + l3).toNatClampNeg) - (aI σ (gR σ l0 20) (((192 : Int32) + ((6 : Int32) * l3)) + l1).toNatClampNeg))) (l3 + (1 : Int32)) σ
theorem tX8_netOf_4 {r : Int32} {σ' : Sg} (C : Cx E p s m args meth c RX8 cX8_netOf 4) (hr : meth.sig.returnType = (some .int)) : ∀ (n : Nat) (l0 : Nat) (l1 : Int32) (l2 : Int32) (l3 : Int32) (σ : Sg) (h : DX8_netOf_4 n l0 l1 l2 l3 σ = some (r, σ')), Y E p l e (rmA 1 0 0) s m args below meth c (some (.int r)) σ' 0 0 4 0 0 σ 4 [some (.ref (ad E l0)), some (.int l1), some (.int l2), some (.int l3)] [] := by
  intro n
  induction n with
  | zero => intro l0 l1 l2 l3 σ h; cases h
  | succ n ih =>
    intro l0 l1 l2 l3 σ h
    unfold DX8_netOf_4 at h
    refine x_iload_n (pc := 4) C dX8_netOf_4 rfl rfl ?_
    refine x_aload_n (pc := 5) C dX8_netOf_5 rfl rfl ?_
    obtain ⟨k, h⟩ := chk_s h
    refine x_getI (pc := 6) C fX8_189 rfl k dX8_netOf_6 ?_
    refine x_icmp_ge (pc := 9) (tgt := 52) C dX8_netOf_9 (by decide) (fun q => ?_) (fun q => ?_)
    · rw [if_pos q] at h
      exact x_sub (tX8_netOf_52 C hr h) (xLe_n (xLe_n (xLe_s (xLe_n xLe_0))))
    · rw [if_neg q] at h
      refine x_iload_n (pc := 12) C dX8_netOf_12 rfl rfl ?_
      refine x_aload_n (pc := 13) C dX8_netOf_13 rfl rfl ?_
      obtain ⟨k, h⟩ := chk_s h
      have k2 := k
      obtain ⟨k, h⟩ := chk_s h
      refine x_getR (pc := 14) C fX8_37 rfl k2 k dX8_netOf_14 ?_
      refine x_sipush (v := 192) (pc := 17) C dX8_netOf_17 (by decide) ?_
      refine x_bipush (v := 6) (pc := 20) C dX8_netOf_20 (by decide) ?_
      refine x_iload_n (pc := 22) C dX8_netOf_22 rfl rfl ?_
      refine x_imul (pc := 23) C dX8_netOf_23 ?_
      refine x_iadd (pc := 24) C dX8_netOf_24 ?_
      refine x_iload_n (pc := 25) C dX8_netOf_25 rfl rfl ?_
      refine x_iadd (pc := 26) C dX8_netOf_26 ?_
      obtain ⟨k, h⟩ := chk_s h
      refine x_iald (pc := 27) C k dX8_netOf_27 ?_
      refine x_aload_n (pc := 28) C dX8_netOf_28 rfl rfl ?_
      obtain ⟨k, h⟩ := chk_s h
      have k2 := k
      obtain ⟨k, h⟩ := chk_s h
      refine x_getR (pc := 29) C fX8_37 rfl k2 k dX8_netOf_29 ?_
      refine x_sipush (v := 192) (pc := 32) C dX8_netOf_32 (by decide) ?_
      refine x_bipush (v := 6) (pc := 35) C dX8_netOf_35 (by decide) ?_
      refine x_iload_n (pc := 37) C dX8_netOf_37 rfl rfl ?_
      refine x_imul (pc := 38) C dX8_netOf_38 ?_
      refine x_iadd (pc := 39) C dX8_netOf_39 ?_
      refine x_iload_n (pc := 40) C dX8_netOf_40 rfl rfl ?_
      refine x_iadd (pc := 41) C dX8_netOf_41 ?_
      obtain ⟨k, h⟩ := chk_s h
      refine x_iald (pc := 42) C k dX8_netOf_42 ?_
      refine x_isub (pc := 43) C dX8_netOf_43 ?_
      refine x_iadd (pc := 44) C dX8_netOf_44 ?_
      refine x_istore_n (M := [some _, some _, some _, some _]) (pc := 45) C dX8_netOf_45 rfl (by decide) rfl ?_
      refine x_iinc (v := 1) (M := [some _, some _, some _, some _]) (pc := 46) C dX8_netOf_46 rfl (by decide) (by decide) rfl ?_
      refine x_goto (tgt := 4) (pc := 49) C dX8_netOf_49 (by decide) ?_
      exact x_sub (ih _ _ _ _ _ h) (xLe_s (xLe_s (xLe_s (xLe_s xLe_0))))
def DX8_netOf (l0 : Nat) (l1 : Int32) (σ : Sg) : Option (Int32 × Sg) :=
  DX8_netOf_4 FU l0 l1 (0 : Int32) (0 : Int32) σ
theorem mX8_netOf (E : Ev) (l : Launch) {l0 : Nat} {l1 : Int32} {σ : Sg} {r : Int32} {σ' : Sg} (h : DX8_netOf l0 l1 σ = some (r, σ')) : Mt E l yX8_netOf cX8_netOf 4 (some .int) 1 0 0 [.ref (ad E l0), .int l1] σ (some (.int r)) σ' := by
  refine Mt.ofX (by decide) (Nat.le_of_ble_eq_true rfl) (L0 := [some (.ref (ad E l0)), some (.int l1), none, none]) (xEntN_ok [.ref (ad E l0), .int l1] 4) (fun p e s m args below meth c C hr hn => ?_)
  unfold DX8_netOf at h
  refine x_iconst (v := 0) (pc := 0) C dX8_netOf_0 (by decide) ?_
  refine x_istore_n (M := [some _, some _, some _, none]) (pc := 1) C dX8_netOf_1 rfl (by decide) rfl ?_
  refine x_iconst (v := 0) (pc := 2) C dX8_netOf_2 (by decide) ?_
  refine x_istore_n (M := [some _, some _, some _, some _]) (pc := 3) C dX8_netOf_3 rfl (by decide) rfl ?_
  exact x_sub (tX8_netOf_4 C hr FU _ _ _ _ _ h) (xLe_s (xLe_s (xLe_s (xLe_s xLe_0))))
end

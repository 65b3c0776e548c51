section
variable {E : Ev} {p : Program} {l : Launch} {e : Env} {s : State} {m : MethodId} {args : Array Value} {below : List Frame} {meth : Method} {c : Code}
def DX8_laysPayments_80 (K32 : Nat → Sg → Option (Unit × Sg)) (K38 : Nat → Int32 → Int32 → Int32 → Sg → Option (Unit × Sg)) (l0 : Nat) (l1 : Int32) (l2 : Int32) (l3 : Int32) (σ : Sg) : Option (Unit × Sg) :=
  K38 l0 l1 l2 (l3 + (1 : Int32)) σ
theorem tX8_laysPayments_80 {r : Unit} {σ' : Sg} (C : Cx E p s m args meth c RX8 cX8_laysPayments 4) (hr : meth.sig.returnType = none) {K32 : Nat → Sg → Option (Unit × Sg)} (hK32 : ∀ (l0 : Nat) (σ : Sg), K32 l0 σ = some (r, σ') → Y E p l e (rmA 2 0 0) s m args below meth c none σ' 0 0 4 0 0 σ 32 [some (.ref (ad E l0)), none, none, none] []) {K38 : Nat → Int32 → Int32 → Int32 → Sg → Option (Unit × Sg)} (hK38 : ∀ (l0 : Nat) (l1 : Int32) (l2 : Int32) (l3 : Int32) (σ : Sg), K38 l0 l1 l2 l3 σ = some (r, σ') → Y E p l e (rmA 2 0 0) s m args below meth c none σ' 0 0 4 0 0 σ 38 [some (.ref (ad E l0)), some (.int l1), some (.int l2), some (.int l3)] []) {l0 : Nat} {l1 : Int32} {l2 : Int32} {l3 : Int32} {σ : Sg} (h : DX8_laysPayments_80 K32 K38 l0 l1 l2 l3 σ = some (r, σ')) : Y E p l e (rmA 2 0 0) s m args below meth c none σ' 0 0 4 0 0 σ 80 [some (.ref (ad E l0)), some (.int l1), some (.int l2), some (.int l3)] [] := by
  unfold DX8_laysPayments_80 at h
  refine x_iinc (v := 1) (M := [some _, some _, some _, some _]) (pc := 80) C dX8_laysPayments_80 rfl (by decide) (by decide) rfl ?_
  refine x_goto (tgt := 38) (pc := 83) C dX8_laysPayments_83 (by decide) ?_
  exact x_sub (hK38 _ _ _ _ _ h) (xLe_s (xLe_s (xLe_s (xLe_s xLe_0))))
def DX8_laysPayments_63 (K32 : Nat → Sg → Option (Unit × Sg)) (K38 : Nat → Int32 → Int32 → Int32 → Sg → Option (Unit × Sg)) (l0 : Nat) (l1 : Int32) (l2 : Int32) (l3 : Int32) (σ : Sg) : Option (Unit × Sg) :=
  chk (ckO σ 6 l0) <|
  chk (ckV (gR σ l0 56)) <|
  chk (ckI σ (gR σ l0 56) l3) <|
  chk (ckO σ 6 l0) <|
  chk (ckV (gR σ l0 56)) <|
  chk (ckI σ (gR σ l0 56) l2) <|
  if (aI σ (gR σ l0 56) l3.toNatClampNeg) ≤ (aI σ (gR σ l0 56) l2.toNatClampNeg) then
    DX8_laysPayments_80 K32 K38 l0 l1 l2 l3 σ
  else
    DX8_laysPayments_80 K32 K38 l0 l1 l3 l3 σ
theorem tX8_laysPayments_63 {r : Unit} {σ' : Sg} (C : Cx E p s m args meth c RX8 cX8_laysPayments 4) (hr : meth.sig.returnType = none) {K32 : Nat → Sg → Option (Unit × Sg)} (hK32 : ∀ (l0 : Nat) (σ : Sg), K32 l0 σ = some (r, σ') → Y E p l e (rmA 2 0 0) s m args below meth c none σ' 0 0 4 0 0 σ 32 [some (.ref (ad E l0)), none, none, none] []) {K38 : Nat → Int32 → Int32 → Int32 → Sg → Option (Unit × Sg)} (hK38 : ∀ (l0 : Nat) (l1 : Int32) (l2 : Int32) (l3 : Int32) (σ : Sg), K38 l0 l1 l2 l3 σ = some (r, σ') → Y E p l e (rmA 2 0 0) s m args below meth c none σ' 0 0 4 0 0 σ 38 [some (.ref (ad E l0)), some (.int l1), some (.int l2), some (.int l3)] []) {l0 : Nat} {l1 : Int32} {l2 : Int32} {l3 : Int32} {σ : Sg} (h : DX8_laysPayments_63 K32 K38 l0 l1 l2 l3 σ = some (r, σ')) : Y E p l e (rmA 2 0 0) s m args below meth c none σ' 0 0 4 0 0 σ 63 [some (.ref (ad E l0)), some (.int l1), some (.int l2), some (.int l3)] [] := by
  unfold DX8_laysPayments_63 at h
  refine x_aload_n (pc := 63) C dX8_laysPayments_63 rfl rfl ?_
  obtain ⟨k, h⟩ := chk_s h
  have k2 := k
  obtain ⟨k, h⟩ := chk_s h
  refine x_getR (pc := 64) C fX8_103 rfl k2 k dX8_laysPayments_64 ?_
  refine x_iload_n (pc := 67) C dX8_laysPayments_67 rfl rfl ?_
  obtain ⟨k, h⟩ := chk_s h
  refine x_iald (pc := 68) C k dX8_laysPayments_68 ?_
  refine x_aload_n (pc := 69) C dX8_laysPayments_69 rfl rfl ?_
  obtain ⟨k, h⟩ := chk_s h
  have k2 := k
  obtain ⟨k, h⟩ := chk_s h
  refine x_getR (pc := 70) C fX8_103 rfl k2 k dX8_laysPayments_70 ?_
  refine x_iload_n (pc := 73) C dX8_laysPayments_73 rfl rfl ?_
  obtain ⟨k, h⟩ := chk_s h
  refine x_iald (pc := 74) C k dX8_laysPayments_74 ?_
  refine x_icmp_le (pc := 75) (tgt := 80) C dX8_laysPayments_75 (by decide) (fun q => ?_) (fun q => ?_)
  · rw [if_pos q] at h
    exact x_sub (tX8_laysPayments_80 C hr hK32 hK38 h) (xLe_s (xLe_s (xLe_s (xLe_s xLe_0))))
  · rw [if_neg q] at h
    refine x_iload_n (pc := 78) C dX8_laysPayments_78 rfl rfl ?_
    refine x_istore_n (M := [some _, some _, some _, some _]) (pc := 79) C dX8_laysPayments_79 rfl (by decide) rfl ?_
    exact x_sub (tX8_laysPayments_80 C hr hK32 hK38 h) (xLe_s (xLe_s (xLe_s (xLe_s xLe_0))))
def DX8_laysPayments_102 (σ : Sg) : Option (Unit × Sg) :=
  some ((), σ)
theorem tX8_laysPayments_102 {r : Unit} {σ' : Sg} (C : Cx E p s m args meth c RX8 cX8_laysPayments 4) (hr : meth.sig.returnType = none) {σ : Sg} (h : DX8_laysPayments_102  σ = some (r, σ')) : Y E p l e (rmA 2 0 0) s m args below meth c none σ' 0 0 4 0 0 σ 102 [none, none, none, none] [] := by
  unfold DX8_laysPayments_102 at h
  cases h
  exact x_vret C hr dX8_laysPayments_102
def DX8_laysPayments_86 (K32 : Nat → Sg → Option (Unit × Sg)) (l0 : Nat) (l1 : Int32) (l2 : Int32) (σ : Sg) : Option (Unit × Sg) :=
  chk (ckO σ 6 l0) <|
  if (gI σ l0 4) = 0 then
    DX8_laysPayments_102 σ
  else
    chk (ckO σ 6 l0) <|
    chk (ckV (gR σ l0 56)) <|
    chk (ckI σ (gR σ l0 56) l2) <|
    if 0 < (aI σ (gR σ l0 56) l2.toNatClampNeg) then
      chk (ckO σ 6 l0) <|
      chk (ckV (gR σ l0 56)) <|
      chk (ckI σ (gR σ l0 56) l2) <|
      chk (ckO σ 6 l0) <|
      chk (ckV (gR σ l0 56)) <|
      chk (ckI σ (gR σ l0 56) l1) <|
      chk (ckO σ 6 l0) <|
      chk (ckV (gR σ l0 53)) <|
      chk (ckO σ 6 l0) <|
      chk (ckI σ (gR σ l0 53) (gI σ l0 57)) <|
      wlet (wI σ (gR σ l0 53) (gI σ l0 57).toNatClampNeg l1) fun σ1 =>
      chk (ckO σ1 6 l0) <|
      chk (ckV (gR σ1 l0 54)) <|
      chk (ckO σ1 6 l0) <|
      chk (ckI σ1 (gR σ1 l0 54) (gI σ1 l0 57)) <|
      wlet (wI σ1 (gR σ1 l0 54) (gI σ1 l0 57).toNatClampNeg l2) fun σ2 =>
      chk (ckO σ2 6 l0) <|
      chk (ckV (gR σ2 l0 55)) <|
      chk (ckO σ2 6 l0) <|
      chk (ckI σ2 (gR σ2 l0 55) (gI σ2 l0 57)) <|
      wlet (wI σ2 (gR σ2 l0 55) (gI σ2 l0 57).toNatClampNeg (imin (aI σ (gR σ l0 56) l2.toNatClampNeg) (-(aI σ (gR σ l0 56) l1.toNatClampNeg)))) fun σ3 =>
      chk (ckO σ3 6 l0) <|
      chk (ckO σ3 6 l0) <|
      wlet (pI σ3 l0 57 ((gI σ3 l0 57) + (1 : Int32))) fun σ4 =>
      chk (ckO σ4 6 l0) <|
      chk (ckV (gR σ4 l0 56)) <|
      chk (ckI σ4 (gR σ4 l0 56) l1) <|
      chk (ckI σ4 (gR σ4 l0 56) l1) <|
      wlet (wI σ4 (gR σ4 l0 56) l1.toNatClampNeg ((aI σ4 (gR σ4 l0 56) l1.toNatClampNeg) + (imin (aI σ (gR σ l0 56) l2.toNatClampNeg) (-(aI σ (gR σ l0 56) l1.toNatClampNeg))))) fun σ5 =>
      chk (ckO σ5 6 l0) <|
      chk (ckV (gR σ5 l0 56)) <|
      chk (ckI σ5 (gR σ5 l0 56) l2) <|
      chk (ckI σ5 (gR σ5 l0 56) l2) <|
      wlet (wI σ5 (gR σ5 l0 56) l2.toNatClampNeg ((aI σ5 (gR σ5 l0 56) l2.toNatClampNeg) - (imin (aI σ (gR σ l0 56) l2.toNatClampNeg) (-(aI σ (gR σ l0 56) l1.toNatClampNeg))))) fun σ6 =>
      K32 l0 σ6
    else
      DX8_laysPayments_102 σ
theorem tX8_laysPayments_86 {r : Unit} {σ' : Sg} (C : Cx E p s m args meth c RX8 cX8_laysPayments 4) (hr : meth.sig.returnType = none) {K32 : Nat → Sg → Option (Unit × Sg)} (hK32 : ∀ (l0 : Nat) (σ : Sg), K32 l0 σ = some (r, σ') → Y E p l e (rmA 2 0 0) s m args below meth c none σ' 0 0 4 0 0 σ 32 [some (.ref (ad E l0)), none, none, none] []) {l0 : Nat} {l1 : Int32} {l2 : Int32} {σ : Sg} (h : DX8_laysPayments_86 K32 l0 l1 l2 σ = some (r, σ')) : Y E p l e (rmA 2 0 0) s m args below meth c none σ' 0 0 4 0 0 σ 86 [some (.ref (ad E l0)), some (.int l1), some (.int l2), none] [] := by
  unfold DX8_laysPayments_86 at h
  refine x_aload_n (pc := 86) C dX8_laysPayments_86 rfl rfl ?_
  obtain ⟨k, h⟩ := chk_s h
  refine x_getI (pc := 87) C fX8_189 rfl k dX8_laysPayments_87 ?_
  refine x_if_eq (pc := 90) (tgt := 102) C dX8_laysPayments_90 (by decide) (fun q => ?_) (fun q => ?_)
  · rw [if_pos q] at h
    exact x_sub (tX8_laysPayments_102 C hr h) (xLe_n (xLe_n (xLe_n (xLe_n xLe_0))))
  · rw [if_neg q] at h
    refine x_aload_n (pc := 93) C dX8_laysPayments_93 rfl rfl ?_
    obtain ⟨k, h⟩ := chk_s h
    have k2 := k
    obtain ⟨k, h⟩ := chk_s h
    refine x_getR (pc := 94) C fX8_103 rfl k2 k dX8_laysPayments_94 ?_
    refine x_iload_n (pc := 97) C dX8_laysPayments_97 rfl rfl ?_
    obtain ⟨k, h⟩ := chk_s h
    refine x_iald (pc := 98) C k dX8_laysPayments_98 ?_
    refine x_if_gt (pc := 99) (tgt := 103) C dX8_laysPayments_99 (by decide) (fun q => ?_) (fun q => ?_)
    · rw [if_pos q] at h
      refine x_aload_n (pc := 103) C dX8_laysPayments_103 rfl rfl ?_
      obtain ⟨k, h⟩ := chk_s h
      have k2 := k
      obtain ⟨k, h⟩ := chk_s h
      refine x_getR (pc := 104) C fX8_103 rfl k2 k dX8_laysPayments_104 ?_
      refine x_iload_n (pc := 107) C dX8_laysPayments_107 rfl rfl ?_
      obtain ⟨k, h⟩ := chk_s h
      refine x_iald (pc := 108) C k dX8_laysPayments_108 ?_
      refine x_aload_n (pc := 109) C dX8_laysPayments_109 rfl rfl ?_
      obtain ⟨k, h⟩ := chk_s h
      have k2 := k
      obtain ⟨k, h⟩ := chk_s h
      refine x_getR (pc := 110) C fX8_103 rfl k2 k dX8_laysPayments_110 ?_
      refine x_iload_n (pc := 113) C dX8_laysPayments_113 rfl rfl ?_
      obtain ⟨k, h⟩ := chk_s h
      refine x_iald (pc := 114) C k dX8_laysPayments_114 ?_
      refine x_ineg (pc := 115) C dX8_laysPayments_115 ?_
      refine x_mmin (pc := 116) C oX8_293 mmmin1 mmi mmmin2 ⟨Nat.le_of_ble_eq_true rfl, Nat.le_of_ble_eq_true rfl, Nat.le_of_ble_eq_true rfl, Nat.le_of_ble_eq_true rfl⟩ dX8_laysPayments_116 ?_
      refine x_istore_n (M := [some _, some _, some _, some _]) (pc := 119) C dX8_laysPayments_119 rfl (by decide) rfl ?_
      refine x_aload_n (pc := 120) C dX8_laysPayments_120 rfl rfl ?_
      obtain ⟨k, h⟩ := chk_s h
      have k2 := k
      obtain ⟨k, h⟩ := chk_s h
      refine x_getR (pc := 121) C fX8_94 rfl k2 k dX8_laysPayments_121 ?_
      refine x_aload_n (pc := 124) C dX8_laysPayments_124 rfl rfl ?_
      obtain ⟨k, h⟩ := chk_s h
      refine x_getI (pc := 125) C fX8_419 rfl k dX8_laysPayments_125 ?_
      refine x_iload_n (pc := 128) C dX8_laysPayments_128 rfl rfl ?_
      obtain ⟨k, h⟩ := chk_s h
      obtain ⟨σ1, e1, h⟩ := wlet_s h
      refine x_iast (pc := 129) C k dX8_laysPayments_129 (x_eq e1 ?_)
      refine x_aload_n (pc := 130) C dX8_laysPayments_130 rfl rfl ?_
      obtain ⟨k, h⟩ := chk_s h
      have k2 := k
      obtain ⟨k, h⟩ := chk_s h
      refine x_getR (pc := 131) C fX8_97 rfl k2 k dX8_laysPayments_131 ?_
      refine x_aload_n (pc := 134) C dX8_laysPayments_134 rfl rfl ?_
      obtain ⟨k, h⟩ := chk_s h
      refine x_getI (pc := 135) C fX8_419 rfl k dX8_laysPayments_135 ?_
      refine x_iload_n (pc := 138) C dX8_laysPayments_138 rfl rfl ?_
      obtain ⟨k, h⟩ := chk_s h
      obtain ⟨σ2, e1, h⟩ := wlet_s h
      refine x_iast (pc := 139) C k dX8_laysPayments_139 (x_eq e1 ?_)
      refine x_aload_n (pc := 140) C dX8_laysPayments_140 rfl rfl ?_
      obtain ⟨k, h⟩ := chk_s h
      have k2 := k
      obtain ⟨k, h⟩ := chk_s h
      refine x_getR (pc := 141) C fX8_100 rfl k2 k dX8_laysPayments_141 ?_
      refine x_aload_n (pc := 144) C dX8_laysPayments_144 rfl rfl ?_
      obtain ⟨k, h⟩ := chk_s h
      refine x_getI (pc := 145) C fX8_419 rfl k dX8_laysPayments_145 ?_
      refine x_iload_n (pc := 148) C dX8_laysPayments_148 rfl rfl ?_
      obtain ⟨k, h⟩ := chk_s h
      obtain ⟨σ3, e1, h⟩ := wlet_s h
      refine x_iast (pc := 149) C k dX8_laysPayments_149 (x_eq e1 ?_)
      refine x_aload_n (pc := 150) C dX8_laysPayments_150 rfl rfl ?_
      refine x_dup (pc := 151) C dX8_laysPayments_151 rfl ?_
      obtain ⟨k, h⟩ := chk_s h
      refine x_getI (pc := 152) C fX8_419 rfl k dX8_laysPayments_152 ?_
      refine x_iconst (v := 1) (pc := 155) C dX8_laysPayments_155 (by decide) ?_
      refine x_iadd (pc := 156) C dX8_laysPayments_156 ?_
      obtain ⟨k, h⟩ := chk_s h
      obtain ⟨σ4, e1, h⟩ := wlet_s h
      refine x_putI (pc := 157) C pX8_419 rfl k dX8_laysPayments_157 (x_eq e1 ?_)
      refine x_aload_n (pc := 160) C dX8_laysPayments_160 rfl rfl ?_
      obtain ⟨k, h⟩ := chk_s h
      have k2 := k
      obtain ⟨k, h⟩ := chk_s h
      refine x_getR (pc := 161) C fX8_103 rfl k2 k dX8_laysPayments_161 ?_
      refine x_iload_n (pc := 164) C dX8_laysPayments_164 rfl rfl ?_
      refine x_dup2 (pc := 165) C dX8_laysPayments_165 rfl rfl ?_
      obtain ⟨k, h⟩ := chk_s h
      refine x_iald (pc := 166) C k dX8_laysPayments_166 ?_
      refine x_iload_n (pc := 167) C dX8_laysPayments_167 rfl rfl ?_
      refine x_iadd (pc := 168) C dX8_laysPayments_168 ?_
      obtain ⟨k, h⟩ := chk_s h
      obtain ⟨σ5, e1, h⟩ := wlet_s h
      refine x_iast (pc := 169) C k dX8_laysPayments_169 (x_eq e1 ?_)
      refine x_aload_n (pc := 170) C dX8_laysPayments_170 rfl rfl ?_
      obtain ⟨k, h⟩ := chk_s h
      have k2 := k
      obtain ⟨k, h⟩ := chk_s h
      refine x_getR (pc := 171) C fX8_103 rfl k2 k dX8_laysPayments_171 ?_
      refine x_iload_n (pc := 174) C dX8_laysPayments_174 rfl rfl ?_
      refine x_dup2 (pc := 175) C dX8_laysPayments_175 rfl rfl ?_
      obtain ⟨k, h⟩ := chk_s h
      refine x_iald (pc := 176) C k dX8_laysPayments_176 ?_
      refine x_iload_n (pc := 177) C dX8_laysPayments_177 rfl rfl ?_
      refine x_isub (pc := 178) C dX8_laysPayments_178 ?_
      obtain ⟨k, h⟩ := chk_s h
      obtain ⟨σ6, e1, h⟩ := wlet_s h
      refine x_iast (pc := 179) C k dX8_laysPayments_179 (x_eq e1 ?_)
      refine x_goto (tgt := 32) (pc := 180) C dX8_laysPayments_180 (by decide) ?_
      exact x_sub (hK32 _ _ h) (xLe_s (xLe_n (xLe_n (xLe_n xLe_0))))
    · rw [if_neg q] at h
      exact x_sub (tX8_laysPayments_102 C hr h) (xLe_n (xLe_n (xLe_n (xLe_n xLe_0))))
def DX8_laysPayments_38 (K32 : Nat → Sg → Option (Unit × Sg)) : Nat → Nat → Int32 → Int32 → Int32 → Sg → Option (Unit × Sg)
  | 0, _, _, _, _, _ => none
  | n + 1, l0, l1, l2, l3, σ =>
    chk (ckO σ 6 l0) <|
    if (gI σ l0 4) ≤ l3 then
      DX8_laysPayments_86 K32 l0 l1 l2 σ
    else
      chk (ckO σ 6 l0) <|
      chk (ckV (gR σ l0 56)) <|
      chk (ckI σ (gR σ l0 56) l3) <|
      chk (ckO σ 6 l0) <|
      chk (ckV (gR σ l0 56)) <|
      chk (ckI σ (gR σ l0 56) l1) <|
      if (aI σ (gR σ l0 56) l1.toNatClampNeg) ≤ (aI σ (gR σ l0 56) l3.toNatClampNeg) then
        DX8_laysPayments_63 K32 (DX8_laysPayments_38 K32 n) l0 l1 l2 l3 σ
      else
        DX8_laysPayments_63 K32 (DX8_laysPayments_38 K32 n) l0 l3 l2 l3 σ
theorem tX8_laysPayments_38 {r : Unit} {σ' : Sg} (C : Cx E p s m args meth c RX8 cX8_laysPayments 4) (hr : meth.sig.returnType = none) {K32 : Nat → Sg → Option (Unit × Sg)} (hK32 : ∀ (l0 : Nat) (σ : Sg), K32 l0 σ = some (r, σ') → Y E p l e (rmA 2 0 0) s m args below meth c none σ' 0 0 4 0 0 σ 32 [some (.ref (ad E l0)), none, none, none] []) : ∀ (n : Nat) (l0 : Nat) (l1 : Int32) (l2 : Int32) (l3 : Int32) (σ : Sg) (h : DX8_laysPayments_38 K32 n l0 l1 l2 l3 σ = some (r, σ')), Y E p l e (rmA 2 0 0) s m args below meth c none σ' 0 0 4 0 0 σ 38 [some (.ref (ad E l0)), some (.int l1), some (.int l2), some (.int l3)] [] := by
  intro n
  induction n with
  | zero => intro l0 l1 l2 l3 σ h; cases h
  | succ n ih =>
    intro l0 l1 l2 l3 σ h
    unfold DX8_laysPayments_38 at h
    refine x_iload_n (pc := 38) C dX8_laysPayments_38 rfl rfl ?_
    refine x_aload_n (pc := 39) C dX8_laysPayments_39 rfl rfl ?_
    obtain ⟨k, h⟩ := chk_s h
    refine x_getI (pc := 40) C fX8_189 rfl k dX8_laysPayments_40 ?_
    refine x_icmp_ge (pc := 43) (tgt := 86) C dX8_laysPayments_43 (by decide) (fun q => ?_) (fun q => ?_)
    · rw [if_pos q] at h
      exact x_sub (tX8_laysPayments_86 C hr hK32 h) (xLe_s (xLe_s (xLe_s (xLe_n xLe_0))))
    · rw [if_neg q] at h
      refine x_aload_n (pc := 46) C dX8_laysPayments_46 rfl rfl ?_
      obtain ⟨k, h⟩ := chk_s h
      have k2 := k
      obtain ⟨k, h⟩ := chk_s h
      refine x_getR (pc := 47) C fX8_103 rfl k2 k dX8_laysPayments_47 ?_
      refine x_iload_n (pc := 50) C dX8_laysPayments_50 rfl rfl ?_
      obtain ⟨k, h⟩ := chk_s h
      refine x_iald (pc := 51) C k dX8_laysPayments_51 ?_
      refine x_aload_n (pc := 52) C dX8_laysPayments_52 rfl rfl ?_
      obtain ⟨k, h⟩ := chk_s h
      have k2 := k
      obtain ⟨k, h⟩ := chk_s h
      refine x_getR (pc := 53) C fX8_103 rfl k2 k dX8_laysPayments_53 ?_
      refine x_iload_n (pc := 56) C dX8_laysPayments_56 rfl rfl ?_
      obtain ⟨k, h⟩ := chk_s h
      refine x_iald (pc := 57) C k dX8_laysPayments_57 ?_
      refine x_icmp_ge (pc := 58) (tgt := 63) C dX8_laysPayments_58 (by decide) (fun q => ?_) (fun q => ?_)
      · rw [if_pos q] at h
        exact x_sub (tX8_laysPayments_63 C hr hK32 ih h) (xLe_s (xLe_s (xLe_s (xLe_s xLe_0))))
      · rw [if_neg q] at h
        refine x_iload_n (pc := 61) C dX8_laysPayments_61 rfl rfl ?_
        refine x_istore_n (M := [some _, some _, some _, some _]) (pc := 62) C dX8_laysPayments_62 rfl (by decide) rfl ?_
        exact x_sub (tX8_laysPayments_63 C hr hK32 ih h) (xLe_s (xLe_s (xLe_s (xLe_s xLe_0))))
def DX8_laysPayments_32 : Nat → Nat → Sg → Option (Unit × Sg)
  | 0, _, _ => none
  | n + 1, l0, σ =>
    DX8_laysPayments_38 (DX8_laysPayments_32 n) FU l0 (0 : Int32) (0 : Int32) (1 : Int32) σ
theorem tX8_laysPayments_32 {r : Unit} {σ' : Sg} (C : Cx E p s m args meth c RX8 cX8_laysPayments 4) (hr : meth.sig.returnType = none) : ∀ (n : Nat) (l0 : Nat) (σ : Sg) (h : DX8_laysPayments_32 n l0 σ = some (r, σ')), Y E p l e (rmA 2 0 0) s m args below meth c none σ' 0 0 4 0 0 σ 32 [some (.ref (ad E l0)), none, none, none] [] := by
  intro n
  induction n with
  | zero => intro l0 σ h; cases h
  | succ n ih =>
    intro l0 σ h
    unfold DX8_laysPayments_32 at h
    refine x_iconst (v := 0) (pc := 32) C dX8_laysPayments_32 (by decide) ?_
    refine x_istore_n (M := [some _, some _, none, none]) (pc := 33) C dX8_laysPayments_33 rfl (by decide) rfl ?_
    refine x_iconst (v := 0) (pc := 34) C dX8_laysPayments_34 (by decide) ?_
    refine x_istore_n (M := [some _, some _, some _, none]) (pc := 35) C dX8_laysPayments_35 rfl (by decide) rfl ?_
    refine x_iconst (v := 1) (pc := 36) C dX8_laysPayments_36 (by decide) ?_
    refine x_istore_n (M := [some _, some _, some _, some _]) (pc := 37) C dX8_laysPayments_37 rfl (by decide) rfl ?_
    exact x_sub (tX8_laysPayments_38 C hr ih FU _ _ _ _ _ h) (xLe_s (xLe_s (xLe_s (xLe_s xLe_0))))
def DX8_laysPayments_7 : Nat → Nat → Int32 → Sg → Option (Unit × Sg)
  | 0, _, _, _ => none
  | n + 1, l0, l1, σ =>
    chk (ckO σ 6 l0) <|
    if (gI σ l0 4) ≤ l1 then
      DX8_laysPayments_32 FU l0 σ
    else
      chk (ckO σ 6 l0) <|
      chk (ckV (gR σ l0 56)) <|
      chk (ckO σ 6 l0) <|
      bnd (DX8_netOf l0 l1 σ) fun v1 σ2 =>
      chk (ckI σ2 (gR σ l0 56) l1) <|
      wlet (wI σ2 (gR σ l0 56) l1.toNatClampNeg v1) fun σ3 =>
      DX8_laysPayments_7 n l0 (l1 + (1 : Int32)) σ3
theorem tX8_laysPayments_7 {r : Unit} {σ' : Sg} (C : Cx E p s m args meth c RX8 cX8_laysPayments 4) (hr : meth.sig.returnType = none) : ∀ (n : Nat) (l0 : Nat) (l1 : Int32) (σ : Sg) (h : DX8_laysPayments_7 n l0 l1 σ = some (r, σ')), Y E p l e (rmA 2 0 0) s m args below meth c none σ' 0 0 4 0 0 σ 7 [some (.ref (ad E l0)), some (.int l1), none, none] [] := by
  intro n
  induction n with
  | zero => intro l0 l1 σ h; cases h
  | succ n ih =>
    intro l0 l1 σ h
    unfold DX8_laysPayments_7 at h
    refine x_iload_n (pc := 7) C dX8_laysPayments_7 rfl rfl ?_
    refine x_aload_n (pc := 8) C dX8_laysPayments_8 rfl rfl ?_
    obtain ⟨k, h⟩ := chk_s h
    refine x_getI (pc := 9) C fX8_189 rfl k dX8_laysPayments_9 ?_
    refine x_icmp_ge (pc := 12) (tgt := 32) C dX8_laysPayments_12 (by decide) (fun q => ?_) (fun q => ?_)
    · rw [if_pos q] at h
      exact x_sub (tX8_laysPayments_32 C hr FU _ _ h) (xLe_s (xLe_n (xLe_n (xLe_n xLe_0))))
    · rw [if_neg q] at h
      refine x_aload_n (pc := 15) C dX8_laysPayments_15 rfl rfl ?_
      obtain ⟨k, h⟩ := chk_s h
      have k2 := k
      obtain ⟨k, h⟩ := chk_s h
      refine x_getR (pc := 16) C fX8_103 rfl k2 k dX8_laysPayments_16 ?_
      refine x_iload_n (pc := 19) C dX8_laysPayments_19 rfl rfl ?_
      refine x_aload_n (pc := 20) C dX8_laysPayments_20 rfl rfl ?_
      refine x_iload_n (pc := 21) C dX8_laysPayments_21 rfl rfl ?_
      obtain ⟨k, h⟩ := chk_s h
      have k2 := k
      obtain ⟨v1, σ2, k, h⟩ := bnd_s h
      refine x_callV1 (pc := 22) C (mX8_netOf E l k) cl6 k2 cX8_422 nX8_netOf sX8_netOf rfl rfl (Nat.le_of_ble_eq_true rfl) ⟨Nat.le_of_ble_eq_true rfl, Nat.le_of_ble_eq_true rfl, Nat.le_of_ble_eq_true rfl, Nat.le_of_ble_eq_true rfl⟩ dX8_laysPayments_22 ?_
      obtain ⟨k, h⟩ := chk_s h
      obtain ⟨σ3, e1, h⟩ := wlet_s h
      refine x_iast (pc := 25) C k dX8_laysPayments_25 (x_eq e1 ?_)
      refine x_iinc (v := 1) (M := [some _, some _, none, none]) (pc := 26) C dX8_laysPayments_26 rfl (by decide) (by decide) rfl ?_
      refine x_goto (tgt := 7) (pc := 29) C dX8_laysPayments_29 (by decide) ?_
      exact x_sub (ih _ _ _ h) (xLe_s (xLe_s (xLe_n (xLe_n xLe_0))))
def DX8_laysPayments (l0 : Nat) (σ : Sg) : Option (Unit × Sg) :=
  chk (ckO σ 6 l0) <|
  wlet (pI σ l0 57 (0 : Int32)) fun σ1 =>
  DX8_laysPayments_7 FU l0 (0 : Int32) σ1
theorem mX8_laysPayments (E : Ev) (l : Launch) {l0 : Nat} {σ : Sg} {r : Unit} {σ' : Sg} (h : DX8_laysPayments l0 σ = some (r, σ')) : Mt E l yX8_laysPayments cX8_laysPayments 4 none 2 0 0 [.ref (ad E l0)] σ none σ' := by
  refine Mt.ofX (by decide) (Nat.le_of_ble_eq_true rfl) (L0 := [some (.ref (ad E l0)), none, none, none]) (xEntN_ok [.ref (ad E l0)] 4) (fun p e s m args below meth c C hr hn => ?_)
  unfold DX8_laysPayments at h
  refine x_aload_n (pc := 0) C dX8_laysPayments_0 rfl rfl ?_
  refine x_iconst (v := 0) (pc := 1) C dX8_laysPayments_1 (by decide) ?_
  obtain ⟨k, h⟩ := chk_s h
  obtain ⟨σ1, e1, h⟩ := wlet_s h
  refine x_putI (pc := 2) C pX8_419 rfl k dX8_laysPayments_2 (x_eq e1 ?_)
  refine x_iconst (v := 0) (pc := 5) C dX8_laysPayments_5 (by decide) ?_
  refine x_istore_n (M := [some _, some _, none, none]) (pc := 6) C dX8_laysPayments_6 rfl (by decide) rfl ?_
  exact x_sub (tX8_laysPayments_7 C hr FU _ _ _ h) (xLe_s (xLe_s (xLe_n (xLe_n xLe_0))))
def DX8_billed_28 (l1 : Int32) (σ : Sg) : Option (Int32 × Sg) :=
  some (l1, σ)
theorem tX8_billed_28 {r : Int32} {σ' : Sg} (C : Cx E p s m args meth c RX8 cX8_billed 3) (hr : meth.sig.returnType = (some .int)) {l1 : Int32} {σ : Sg} (h : DX8_billed_28 l1 σ = some (r, σ')) : Y E p l e (rmA 1 0 0) s m args below meth c (some (.int r)) σ' 0 0 3 0 0 σ 28 [none, some (.int l1), none] [] := by
  unfold DX8_billed_28 at h
  refine x_iload_n (pc := 28) C dX8_billed_28 rfl rfl ?_
  cases h
  exact x_iret C hr dX8_billed_29
def DX8_billed_6 : Nat → Nat → Int32 → Int32 → Sg → Option (Int32 × Sg)
  | 0, _, _, _, _ => none
  | n + 1, l0, l1, l2, σ =>
    if (228 : Int32) ≤ l2 then
      DX8_billed_28 l1 σ
    else
      chk (ckO σ 6 l0) <|
      chk (ckV (gR σ l0 20)) <|
      chk (ckI σ (gR σ l0 20) l2) <|
      DX8_billed_6 n l0 (l1 + (aI σ (gR σ l0 20) l2.toNatClampNeg)) (l2 + (1 : Int32)) σ
theorem tX8_billed_6 {r : Int32} {σ' : Sg} (C : Cx E p s m args meth c RX8 cX8_billed 3) (hr : meth.sig.returnType = (some .int)) : ∀ (n : Nat) (l0 : Nat) (l1 : Int32) (l2 : Int32) (σ : Sg) (h : DX8_billed_6 n l0 l1 l2 σ = some (r, σ')), Y E p l e (rmA 1 0 0) s m args below meth c (some (.int r)) σ' 0 0 3 0 0 σ 6 [some (.ref (ad E l0)), some (.int l1), some (.int l2)] [] := by
  intro n
  induction n with
  | zero => intro l0 l1 l2 σ h; cases h
  | succ n ih =>
    intro l0 l1 l2 σ h
    unfold DX8_billed_6 at h
    refine x_iload_n (pc := 6) C dX8_billed_6 rfl rfl ?_
    refine x_sipush (v := 228) (pc := 7) C dX8_billed_7 (by decide) ?_
    refine x_icmp_ge (pc := 10) (tgt := 28) C dX8_billed_10 (by decide) (fun q => ?_) (fun q => ?_)
    · rw [if_pos q] at h
      exact x_sub (tX8_billed_28 C hr h) (xLe_n (xLe_s (xLe_n xLe_0)))
    · rw [if_neg q] at h
      refine x_iload_n (pc := 13) C dX8_billed_13 rfl rfl ?_
      refine x_aload_n (pc := 14) C dX8_billed_14 rfl rfl ?_
      obtain ⟨k, h⟩ := chk_s h
      have k2 := k
      obtain ⟨k, h⟩ := chk_s h
      refine x_getR (pc := 15) C fX8_37 rfl k2 k dX8_billed_15 ?_
      refine x_iload_n (pc := 18) C dX8_billed_18 rfl rfl ?_
      obtain ⟨k, h⟩ := chk_s h
      refine x_iald (pc := 19) C k dX8_billed_19 ?_
      refine x_iadd (pc := 20) C dX8_billed_20 ?_
      refine x_istore_n (M := [some _, some _, some _]) (pc := 21) C dX8_billed_21 rfl (by decide) rfl ?_
      refine x_iinc (v := 1) (M := [some _, some _, some _]) (pc := 22) C dX8_billed_22 rfl (by decide) (by decide) rfl ?_
      refine x_goto (tgt := 6) (pc := 25) C dX8_billed_25 (by decide) ?_
      exact x_sub (ih _ _ _ _ h) (xLe_s (xLe_s (xLe_s xLe_0)))
def DX8_billed (l0 : Nat) (σ : Sg) : Option (Int32 × Sg) :=
  DX8_billed_6 FU l0 (0 : Int32) (192 : Int32) σ
theorem mX8_billed (E : Ev) (l : Launch) {l0 : Nat} {σ : Sg} {r : Int32} {σ' : Sg} (h : DX8_billed l0 σ = some (r, σ')) : Mt E l yX8_billed cX8_billed 3 (some .int) 1 0 0 [.ref (ad E l0)] σ (some (.int r)) σ' := by
  refine Mt.ofX (by decide) (Nat.le_of_ble_eq_true rfl) (L0 := [some (.ref (ad E l0)), none, none]) (xEntN_ok [.ref (ad E l0)] 3) (fun p e s m args below meth c C hr hn => ?_)
  unfold DX8_billed at h
  refine x_iconst (v := 0) (pc := 0) C dX8_billed_0 (by decide) ?_
  refine x_istore_n (M := [some _, some _, none]) (pc := 1) C dX8_billed_1 rfl (by decide) rfl ?_
  refine x_sipush (v := 192) (pc := 2) C dX8_billed_2 (by decide) ?_
  refine x_istore_n (M := [some _, some _, some _]) (pc := 5) C dX8_billed_5 rfl (by decide) rfl ?_
  exact x_sub (tX8_billed_6 C hr FU _ _ _ _ h) (xLe_s (xLe_s (xLe_s xLe_0)))
def DX8_clear_108 (l1 : Int32) (σ : Sg) : Option (Int32 × Sg) :=
  some (l1, σ)
theorem tX8_clear_108 {r : Int32} {σ' : Sg} (C : Cx E p s m args meth c RX8 cX8_clear 3) (hr : meth.sig.returnType = (some .int)) {l1 : Int32} {σ : Sg} (h : DX8_clear_108 l1 σ = some (r, σ')) : Y E p l e (rmA 3 0 0) s m args below meth c (some (.int r)) σ' 0 0 3 0 0 σ 108 [none, some (.int l1), none] [] := by
  unfold DX8_clear_108 at h
  refine x_iload_n (pc := 108) C dX8_clear_108 rfl rfl ?_
  cases h
  exact x_iret C hr dX8_clear_109
def DX8_clear_88 : Nat → Nat → Int32 → Int32 → Sg → Option (Int32 × Sg)
  | 0, _, _, _, _ => none
  | n + 1, l0, l1, l2, σ =>
    if (228 : Int32) ≤ l2 then
      DX8_clear_108 l1 σ
    else
      chk (ckO σ 6 l0) <|
      chk (ckV (gR σ l0 20)) <|
      chk (ckI σ (gR σ l0 20) l2) <|
      wlet (wI σ (gR σ l0 20) l2.toNatClampNeg (0 : Int32)) fun σ1 =>
      DX8_clear_88 n l0 l1 (l2 + (1 : Int32)) σ1
theorem tX8_clear_88 {r : Int32} {σ' : Sg} (C : Cx E p s m args meth c RX8 cX8_clear 3) (hr : meth.sig.returnType = (some .int)) : ∀ (n : Nat) (l0 : Nat) (l1 : Int32) (l2 : Int32) (σ : Sg) (h : DX8_clear_88 n l0 l1 l2 σ = some (r, σ')), Y E p l e (rmA 3 0 0) s m args below meth c (some (.int r)) σ' 0 0 3 0 0 σ 88 [some (.ref (ad E l0)), some (.int l1), some (.int l2)] [] := by
  intro n
  induction n with
  | zero => intro l0 l1 l2 σ h; cases h
  | succ n ih =>
    intro l0 l1 l2 σ h
    unfold DX8_clear_88 at h
    refine x_iload_n (pc := 88) C dX8_clear_88 rfl rfl ?_
    refine x_sipush (v := 228) (pc := 89) C dX8_clear_89 (by decide) ?_
    refine x_icmp_ge (pc := 92) (tgt := 108) C dX8_clear_92 (by decide) (fun q => ?_) (fun q => ?_)
    · rw [if_pos q] at h
      exact x_sub (tX8_clear_108 C hr h) (xLe_n (xLe_s (xLe_n xLe_0)))
    · rw [if_neg q] at h
      refine x_aload_n (pc := 95) C dX8_clear_95 rfl rfl ?_
      obtain ⟨k, h⟩ := chk_s h
      have k2 := k
      obtain ⟨k, h⟩ := chk_s h
      refine x_getR (pc := 96) C fX8_37 rfl k2 k dX8_clear_96 ?_
      refine x_iload_n (pc := 99) C dX8_clear_99 rfl rfl ?_
      refine x_iconst (v := 0) (pc := 100) C dX8_clear_100 (by decide) ?_
      obtain ⟨k, h⟩ := chk_s h
      obtain ⟨σ1, e1, h⟩ := wlet_s h
      refine x_iast (pc := 101) C k dX8_clear_101 (x_eq e1 ?_)
      refine x_iinc (v := 1) (M := [some _, some _, some _]) (pc := 102) C dX8_clear_102 rfl (by decide) (by decide) rfl ?_
      refine x_goto (tgt := 88) (pc := 105) C dX8_clear_105 (by decide) ?_
      exact x_sub (ih _ _ _ _ h) (xLe_s (xLe_s (xLe_s xLe_0)))
def DX8_clear_84 (l0 : Nat) (l1 : Int32) (σ : Sg) : Option (Int32 × Sg) :=
  DX8_clear_88 FU l0 l1 (192 : Int32) σ
theorem tX8_clear_84 {r : Int32} {σ' : Sg} (C : Cx E p s m args meth c RX8 cX8_clear 3) (hr : meth.sig.returnType = (some .int)) {l0 : Nat} {l1 : Int32} {σ : Sg} (h : DX8_clear_84 l0 l1 σ = some (r, σ')) : Y E p l e (rmA 3 0 0) s m args below meth c (some (.int r)) σ' 0 0 3 0 0 σ 84 [some (.ref (ad E l0)), some (.int l1), none] [] := by
  unfold DX8_clear_84 at h
  refine x_sipush (v := 192) (pc := 84) C dX8_clear_84 (by decide) ?_
  refine x_istore_n (M := [some _, some _, some _]) (pc := 87) C dX8_clear_87 rfl (by decide) rfl ?_
  exact x_sub (tX8_clear_88 C hr FU _ _ _ _ h) (xLe_s (xLe_s (xLe_s xLe_0)))
def DX8_clear_52 : Nat → Nat → Int32 → Int32 → Sg → Option (Int32 × Sg)
  | 0, _, _, _, _ => none
  | n + 1, l0, l1, l2, σ =>
    chk (ckO σ 6 l0) <|
    if (gI σ l0 4) ≤ l2 then
      DX8_clear_84 l0 l1 σ
    else
      chk (ckO σ 6 l0) <|
      chk (ckV (gR σ l0 20)) <|
      chk (ckI σ (gR σ l0 20) ((228 : Int32) + l2)) <|
      chk (ckO σ 6 l0) <|
      bnd (DX8_netOf l0 l2 σ) fun v1 σ2 =>
      chk (ckI σ2 (gR σ l0 20) ((228 : Int32) + l2)) <|
      wlet (wI σ2 (gR σ l0 20) ((228 : Int32) + l2).toNatClampNeg ((aI σ (gR σ l0 20) ((228 : Int32) + l2).toNatClampNeg) + v1)) fun σ3 =>
      DX8_clear_52 n l0 l1 (l2 + (1 : Int32)) σ3
theorem tX8_clear_52 {r : Int32} {σ' : Sg} (C : Cx E p s m args meth c RX8 cX8_clear 3) (hr : meth.sig.returnType = (some .int)) : ∀ (n : Nat) (l0 : Nat) (l1 : Int32) (l2 : Int32) (σ : Sg) (h : DX8_clear_52 n l0 l1 l2 σ = some (r, σ')), Y E p l e (rmA 3 0 0) s m args below meth c (some (.int r)) σ' 0 0 3 0 0 σ 52 [some (.ref (ad E l0)), some (.int l1), some (.int l2)] [] := by
  intro n
  induction n with
  | zero => intro l0 l1 l2 σ h; cases h
  | succ n ih =>
    intro l0 l1 l2 σ h
    unfold DX8_clear_52 at h
    refine x_iload_n (pc := 52) C dX8_clear_52 rfl rfl ?_
    refine x_aload_n (pc := 53) C dX8_clear_53 rfl rfl ?_
    obtain ⟨k, h⟩ := chk_s h
    refine x_getI (pc := 54) C fX8_189 rfl k dX8_clear_54 ?_
    refine x_icmp_ge (pc := 57) (tgt := 84) C dX8_clear_57 (by decide) (fun q => ?_) (fun q => ?_)
    · rw [if_pos q] at h
      exact x_sub (tX8_clear_84 C hr h) (xLe_s (xLe_s (xLe_n xLe_0)))
    · rw [if_neg q] at h
      refine x_aload_n (pc := 60) C dX8_clear_60 rfl rfl ?_
      obtain ⟨k, h⟩ := chk_s h
      have k2 := k
      obtain ⟨k, h⟩ := chk_s h
      refine x_getR (pc := 61) C fX8_37 rfl k2 k dX8_clear_61 ?_
      refine x_sipush (v := 228) (pc := 64) C dX8_clear_64 (by decide) ?_
      refine x_iload_n (pc := 67) C dX8_clear_67 rfl rfl ?_
      refine x_iadd (pc := 68) C dX8_clear_68 ?_
      refine x_dup2 (pc := 69) C dX8_clear_69 rfl rfl ?_
      obtain ⟨k, h⟩ := chk_s h
      refine x_iald (pc := 70) C k dX8_clear_70 ?_
      refine x_aload_n (pc := 71) C dX8_clear_71 rfl rfl ?_
      refine x_iload_n (pc := 72) C dX8_clear_72 rfl rfl ?_
      obtain ⟨k, h⟩ := chk_s h
      have k2 := k
      obtain ⟨v1, σ2, k, h⟩ := bnd_s h
      refine x_callV1 (pc := 73) C (mX8_netOf E l k) cl6 k2 cX8_422 nX8_netOf sX8_netOf rfl rfl (Nat.le_of_ble_eq_true rfl) ⟨Nat.le_of_ble_eq_true rfl, Nat.le_of_ble_eq_true rfl, Nat.le_of_ble_eq_true rfl, Nat.le_of_ble_eq_true rfl⟩ dX8_clear_73 ?_
      refine x_iadd (pc := 76) C dX8_clear_76 ?_
      obtain ⟨k, h⟩ := chk_s h
      obtain ⟨σ3, e1, h⟩ := wlet_s h
      refine x_iast (pc := 77) C k dX8_clear_77 (x_eq e1 ?_)
      refine x_iinc (v := 1) (M := [some _, some _, some _]) (pc := 78) C dX8_clear_78 rfl (by decide) (by decide) rfl ?_
      refine x_goto (tgt := 52) (pc := 81) C dX8_clear_81 (by decide) ?_
      exact x_sub (ih _ _ _ _ h) (xLe_s (xLe_s (xLe_s xLe_0)))
def DX8_clear_50 (l0 : Nat) (l1 : Int32) (σ : Sg) : Option (Int32 × Sg) :=
  DX8_clear_52 FU l0 l1 (0 : Int32) σ
theorem tX8_clear_50 {r : Int32} {σ' : Sg} (C : Cx E p s m args meth c RX8 cX8_clear 3) (hr : meth.sig.returnType = (some .int)) {l0 : Nat} {l1 : Int32} {σ : Sg} (h : DX8_clear_50 l0 l1 σ = some (r, σ')) : Y E p l e (rmA 3 0 0) s m args below meth c (some (.int r)) σ' 0 0 3 0 0 σ 50 [some (.ref (ad E l0)), some (.int l1), none] [] := by
  unfold DX8_clear_50 at h
  refine x_iconst (v := 0) (pc := 50) C dX8_clear_50 (by decide) ?_
  refine x_istore_n (M := [some _, some _, some _]) (pc := 51) C dX8_clear_51 rfl (by decide) rfl ?_
  exact x_sub (tX8_clear_52 C hr FU _ _ _ _ h) (xLe_s (xLe_s (xLe_s xLe_0)))
def DX8_clear_27 : Nat → Nat → Int32 → Int32 → Sg → Option (Int32 × Sg)
  | 0, _, _, _, _ => none
  | n + 1, l0, l1, l2, σ =>
    chk (ckO σ 6 l0) <|
    if (gI σ l0 57) ≤ l2 then
      DX8_clear_50 l0 l1 σ
    else
      chk (ckO σ 6 l0) <|
      chk (ckV (gR σ l0 55)) <|
      chk (ckI σ (gR σ l0 55) l2) <|
      DX8_clear_27 n l0 (l1 + (aI σ (gR σ l0 55) l2.toNatClampNeg)) (l2 + (1 : Int32)) σ
theorem tX8_clear_27 {r : Int32} {σ' : Sg} (C : Cx E p s m args meth c RX8 cX8_clear 3) (hr : meth.sig.returnType = (some .int)) : ∀ (n : Nat) (l0 : Nat) (l1 : Int32) (l2 : Int32) (σ : Sg) (h : DX8_clear_27 n l0 l1 l2 σ = some (r, σ')), Y E p l e (rmA 3 0 0) s m args below meth c (some (.int r)) σ' 0 0 3 0 0 σ 27 [some (.ref (ad E l0)), some (.int l1), some (.int l2)] [] := by
  intro n
  induction n with
  | zero => intro l0 l1 l2 σ h; cases h
  | succ n ih =>
    intro l0 l1 l2 σ h
    unfold DX8_clear_27 at h
    refine x_iload_n (pc := 27) C dX8_clear_27 rfl rfl ?_
    refine x_aload_n (pc := 28) C dX8_clear_28 rfl rfl ?_
    obtain ⟨k, h⟩ := chk_s h
    refine x_getI (pc := 29) C fX8_419 rfl k dX8_clear_29 ?_
    refine x_icmp_ge (pc := 32) (tgt := 50) C dX8_clear_32 (by decide) (fun q => ?_) (fun q => ?_)
    · rw [if_pos q] at h
      exact x_sub (tX8_clear_50 C hr h) (xLe_s (xLe_s (xLe_n xLe_0)))
    · rw [if_neg q] at h
      refine x_iload_n (pc := 35) C dX8_clear_35 rfl rfl ?_
      refine x_aload_n (pc := 36) C dX8_clear_36 rfl rfl ?_
      obtain ⟨k, h⟩ := chk_s h
      have k2 := k
      obtain ⟨k, h⟩ := chk_s h
      refine x_getR (pc := 37) C fX8_100 rfl k2 k dX8_clear_37 ?_
      refine x_iload_n (pc := 40) C dX8_clear_40 rfl rfl ?_
      obtain ⟨k, h⟩ := chk_s h
      refine x_iald (pc := 41) C k dX8_clear_41 ?_
      refine x_iadd (pc := 42) C dX8_clear_42 ?_
      refine x_istore_n (M := [some _, some _, some _]) (pc := 43) C dX8_clear_43 rfl (by decide) rfl ?_
      refine x_iinc (v := 1) (M := [some _, some _, some _]) (pc := 44) C dX8_clear_44 rfl (by decide) (by decide) rfl ?_
      refine x_goto (tgt := 27) (pc := 47) C dX8_clear_47 (by decide) ?_
      exact x_sub (ih _ _ _ _ h) (xLe_s (xLe_s (xLe_s xLe_0)))
def DX8_clear (l0 : Nat) (σ : Sg) : Option (Int32 × Sg) :=
  chk (ckO σ 6 l0) <|
  wlet (pI σ l0 0 (0 : Int32)) fun σ1 =>
  chk (ckO σ1 6 l0) <|
  bnd (DX8_billed l0 σ1) fun v2 σ3 =>
  if v2 = 0 then
    some ((-2 : Int32), σ3)
  else
    chk (ckO σ3 6 l0) <|
    bnd (DX8_keeps l0 σ3) fun _ σ4 =>
    chk (ckO σ4 6 l0) <|
    bnd (DX8_laysPayments l0 σ4) fun _ σ5 =>
    DX8_clear_27 FU l0 (0 : Int32) (0 : Int32) σ5
theorem mX8_clear (E : Ev) (l : Launch) {l0 : Nat} {σ : Sg} {r : Int32} {σ' : Sg} (h : DX8_clear l0 σ = some (r, σ')) : Mt E l yX8_clear cX8_clear 3 (some .int) 3 0 0 [.ref (ad E l0)] σ (some (.int r)) σ' := by
  refine Mt.ofX (by decide) (Nat.le_of_ble_eq_true rfl) (L0 := [some (.ref (ad E l0)), none, none]) (xEntN_ok [.ref (ad E l0)] 3) (fun p e s m args below meth c C hr hn => ?_)
  unfold DX8_clear at h
  refine x_aload_n (pc := 0) C dX8_clear_0 rfl rfl ?_
  refine x_iconst (v := 0) (pc := 1) C dX8_clear_1 (by decide) ?_
  obtain ⟨k, h⟩ := chk_s h
  obtain ⟨σ1, e1, h⟩ := wlet_s h
  refine x_putI (pc := 2) C pX8_112 rfl k dX8_clear_2 (x_eq e1 ?_)
  refine x_aload_n (pc := 5) C dX8_clear_5 rfl rfl ?_
  obtain ⟨k, h⟩ := chk_s h
  have k2 := k
  obtain ⟨v2, σ3, k, h⟩ := bnd_s h
  refine x_callV1 (pc := 6) C (mX8_billed E l k) cl6 k2 cX8_425 nX8_billed sX8_billed rfl rfl (Nat.le_of_ble_eq_true rfl) ⟨Nat.le_of_ble_eq_true rfl, Nat.le_of_ble_eq_true rfl, Nat.le_of_ble_eq_true rfl, Nat.le_of_ble_eq_true rfl⟩ dX8_clear_6 ?_
  refine x_if_ne (pc := 9) (tgt := 15) C dX8_clear_9 (by decide) (fun q => ?_) (fun q => ?_)
  · rw [if_pos q] at h
    refine x_bipush (v := -2) (pc := 12) C dX8_clear_12 (by decide) ?_
    cases h
    exact x_iret C hr dX8_clear_14
  · rw [if_neg q] at h
    refine x_aload_n (pc := 15) C dX8_clear_15 rfl rfl ?_
    obtain ⟨k, h⟩ := chk_s h
    have k2 := k
    obtain ⟨u0, σ4, k, h⟩ := bnd_s h
    refine x_callV0 (pc := 16) C (mX8_keeps E l k) cl6 k2 cX8_410 nX8_keeps sX8_keeps rfl rfl (Nat.le_of_ble_eq_true rfl) ⟨Nat.le_of_ble_eq_true rfl, Nat.le_of_ble_eq_true rfl, Nat.le_of_ble_eq_true rfl, Nat.le_of_ble_eq_true rfl⟩ dX8_clear_16 ?_
    refine x_aload_n (pc := 19) C dX8_clear_19 rfl rfl ?_
    obtain ⟨k, h⟩ := chk_s h
    have k2 := k
    obtain ⟨u0, σ5, k, h⟩ := bnd_s h
    refine x_callV0 (pc := 20) C (mX8_laysPayments E l k) cl6 k2 cX8_428 nX8_laysPayments sX8_laysPayments rfl rfl (Nat.le_of_ble_eq_true rfl) ⟨Nat.le_of_ble_eq_true rfl, Nat.le_of_ble_eq_true rfl, Nat.le_of_ble_eq_true rfl, Nat.le_of_ble_eq_true rfl⟩ dX8_clear_20 ?_
    refine x_iconst (v := 0) (pc := 23) C dX8_clear_23 (by decide) ?_
    refine x_istore_n (M := [some _, some _, none]) (pc := 24) C dX8_clear_24 rfl (by decide) rfl ?_
    refine x_iconst (v := 0) (pc := 25) C dX8_clear_25 (by decide) ?_
    refine x_istore_n (M := [some _, some _, some _]) (pc := 26) C dX8_clear_26 rfl (by decide) rfl ?_
    exact x_sub (tX8_clear_27 C hr FU _ _ _ _ h) (xLe_s (xLe_s (xLe_s xLe_0)))
def DX8_bill_45 (s0 : Int32) (σ : Sg) : Option (Int32 × Sg) :=
  some (s0, σ)
theorem tX8_bill_45 {r : Int32} {σ' : Sg} (C : Cx E p s m args meth c RX8 cX8_bill 3) (hr : meth.sig.returnType = (some .int)) {s0 : Int32} {σ : Sg} (h : DX8_bill_45 s0 σ = some (r, σ')) : Y E p l e (rmA 2 0 0) s m args below meth c (some (.int r)) σ' 0 0 3 0 0 σ 45 [none, none, none] [.int s0] := by
  unfold DX8_bill_45 at h
  cases h
  exact x_iret C hr dX8_bill_45
def DX8_bill_44 (σ : Sg) : Option (Int32 × Sg) :=
  DX8_bill_45 (-1 : Int32) σ
theorem tX8_bill_44 {r : Int32} {σ' : Sg} (C : Cx E p s m args meth c RX8 cX8_bill 3) (hr : meth.sig.returnType = (some .int)) {σ : Sg} (h : DX8_bill_44  σ = some (r, σ')) : Y E p l e (rmA 2 0 0) s m args below meth c (some (.int r)) σ' 0 0 3 0 0 σ 44 [none, none, none] [] := by
  unfold DX8_bill_44 at h
  refine x_iconst (v := -1) (pc := 44) C dX8_bill_44 (by decide) ?_
  exact x_sub (tX8_bill_45 C hr h) (xLe_n (xLe_n (xLe_n xLe_0)))
def DX8_bill (l0 : Nat) (l1 : Int32) (l2 : Int32) (σ : Sg) : Option (Int32 × Sg) :=
  chk (ckO σ 6 l0) <|
  wlet (pI σ l0 0 (0 : Int32)) fun σ1 =>
  chk (ckO σ1 6 l0) <|
  bnd (DX8_isCarrier l0 l1 σ1) fun v2 σ3 =>
  if v2 = 0 then
    DX8_bill_44 σ3
  else
    chk (ckO σ3 6 l0) <|
    bnd (DX8_isCarrier l0 l2 σ3) fun v4 σ5 =>
    if v4 = 0 then
      DX8_bill_44 σ5
    else
      if l1 = l2 then
        DX8_bill_44 σ5
      else
        chk (ckO σ5 6 l0) <|
        chk (ckV (gR σ5 l0 20)) <|
        chk (ckI σ5 (gR σ5 l0 20) (((192 : Int32) + ((6 : Int32) * l1)) + l2)) <|
        DX8_bill_45 (aI σ5 (gR σ5 l0 20) (((192 : Int32) + ((6 : Int32) * l1)) + l2).toNatClampNeg) σ5
theorem mX8_bill (E : Ev) (l : Launch) {l0 : Nat} {l1 : Int32} {l2 : Int32} {σ : Sg} {r : Int32} {σ' : Sg} (h : DX8_bill l0 l1 l2 σ = some (r, σ')) : Mt E l yX8_bill cX8_bill 3 (some .int) 2 0 0 [.ref (ad E l0), .int l1, .int l2] σ (some (.int r)) σ' := by
  refine Mt.ofX (by decide) (Nat.le_of_ble_eq_true rfl) (L0 := [some (.ref (ad E l0)), some (.int l1), some (.int l2)]) (xEntN_ok [.ref (ad E l0), .int l1, .int l2] 3) (fun p e s m args below meth c C hr hn => ?_)
  unfold DX8_bill at h
  refine x_aload_n (pc := 0) C dX8_bill_0 rfl rfl ?_
  refine x_iconst (v := 0) (pc := 1) C dX8_bill_1 (by decide) ?_
  obtain ⟨k, h⟩ := chk_s h
  obtain ⟨σ1, e1, h⟩ := wlet_s h
  refine x_putI (pc := 2) C pX8_112 rfl k dX8_bill_2 (x_eq e1 ?_)
  refine x_aload_n (pc := 5) C dX8_bill_5 rfl rfl ?_
  refine x_iload_n (pc := 6) C dX8_bill_6 rfl rfl ?_
  obtain ⟨k, h⟩ := chk_s h
  have k2 := k
  obtain ⟨v2, σ3, k, h⟩ := bnd_s h
  refine x_callV1 (pc := 7) C (mX8_isCarrier E l k) cl6 k2 cX8_315 nX8_isCarrier sX8_isCarrier rfl rfl (Nat.le_of_ble_eq_true rfl) ⟨Nat.le_of_ble_eq_true rfl, Nat.le_of_ble_eq_true rfl, Nat.le_of_ble_eq_true rfl, Nat.le_of_ble_eq_true rfl⟩ dX8_bill_7 ?_
  refine x_if_eq (pc := 10) (tgt := 44) C dX8_bill_10 (by decide) (fun q => ?_) (fun q => ?_)
  · rw [if_pos q] at h
    exact x_sub (tX8_bill_44 C hr h) (xLe_n (xLe_n (xLe_n xLe_0)))
  · rw [if_neg q] at h
    refine x_aload_n (pc := 13) C dX8_bill_13 rfl rfl ?_
    refine x_iload_n (pc := 14) C dX8_bill_14 rfl rfl ?_
    obtain ⟨k, h⟩ := chk_s h
    have k2 := k
    obtain ⟨v4, σ5, k, h⟩ := bnd_s h
    refine x_callV1 (pc := 15) C (mX8_isCarrier E l k) cl6 k2 cX8_315 nX8_isCarrier sX8_isCarrier rfl rfl (Nat.le_of_ble_eq_true rfl) ⟨Nat.le_of_ble_eq_true rfl, Nat.le_of_ble_eq_true rfl, Nat.le_of_ble_eq_true rfl, Nat.le_of_ble_eq_true rfl⟩ dX8_bill_15 ?_
    refine x_if_eq (pc := 18) (tgt := 44) C dX8_bill_18 (by decide) (fun q => ?_) (fun q => ?_)
    · rw [if_pos q] at h
      exact x_sub (tX8_bill_44 C hr h) (xLe_n (xLe_n (xLe_n xLe_0)))
    · rw [if_neg q] at h
      refine x_iload_n (pc := 21) C dX8_bill_21 rfl rfl ?_
      refine x_iload_n (pc := 22) C dX8_bill_22 rfl rfl ?_
      refine x_icmp_eq (pc := 23) (tgt := 44) C dX8_bill_23 (by decide) (fun q => ?_) (fun q => ?_)
      · rw [if_pos q] at h
        exact x_sub (tX8_bill_44 C hr h) (xLe_n (xLe_n (xLe_n xLe_0)))
      · rw [if_neg q] at h
        refine x_aload_n (pc := 26) C dX8_bill_26 rfl rfl ?_
        obtain ⟨k, h⟩ := chk_s h
        have k2 := k
        obtain ⟨k, h⟩ := chk_s h
        refine x_getR (pc := 27) C fX8_37 rfl k2 k dX8_bill_27 ?_
        refine x_sipush (v := 192) (pc := 30) C dX8_bill_30 (by decide) ?_
        refine x_bipush (v := 6) (pc := 33) C dX8_bill_33 (by decide) ?_
        refine x_iload_n (pc := 35) C dX8_bill_35 rfl rfl ?_
        refine x_imul (pc := 36) C dX8_bill_36 ?_
        refine x_iadd (pc := 37) C dX8_bill_37 ?_
        refine x_iload_n (pc := 38) C dX8_bill_38 rfl rfl ?_
        refine x_iadd (pc := 39) C dX8_bill_39 ?_
        obtain ⟨k, h⟩ := chk_s h
        refine x_iald (pc := 40) C k dX8_bill_40 ?_
        refine x_goto (tgt := 45) (pc := 41) C dX8_bill_41 (by decide) ?_
        exact x_sub (tX8_bill_45 C hr h) (xLe_n (xLe_n (xLe_n xLe_0)))
def DX8_net_24 (s0 : Int32) (σ : Sg) : Option (Int32 × Sg) :=
  some (s0, σ)
theorem tX8_net_24 {r : Int32} {σ' : Sg} (C : Cx E p s m args meth c RX8 cX8_net 2) (hr : meth.sig.returnType = (some .int)) {s0 : Int32} {σ : Sg} (h : DX8_net_24 s0 σ = some (r, σ')) : Y E p l e (rmA 2 0 0) s m args below meth c (some (.int r)) σ' 0 0 2 0 0 σ 24 [none, none] [.int s0] := by
  unfold DX8_net_24 at h
  cases h
  exact x_iret C hr dX8_net_24
def DX8_net (l0 : Nat) (l1 : Int32) (σ : Sg) : Option (Int32 × Sg) :=
  chk (ckO σ 6 l0) <|
  wlet (pI σ l0 0 (0 : Int32)) fun σ1 =>
  chk (ckO σ1 6 l0) <|
  bnd (DX8_isCarrier l0 l1 σ1) fun v2 σ3 =>
  if v2 = 0 then
    DX8_net_24 (-1000000000 : Int32) σ3
  else
    chk (ckO σ3 6 l0) <|
    bnd (DX8_netOf l0 l1 σ3) fun v4 σ5 =>
    DX8_net_24 v4 σ5
theorem mX8_net (E : Ev) (l : Launch) {l0 : Nat} {l1 : Int32} {σ : Sg} {r : Int32} {σ' : Sg} (h : DX8_net l0 l1 σ = some (r, σ')) : Mt E l yX8_net cX8_net 2 (some .int) 2 0 0 [.ref (ad E l0), .int l1] σ (some (.int r)) σ' := by
  refine Mt.ofX (by decide) (Nat.le_of_ble_eq_true rfl) (L0 := [some (.ref (ad E l0)), some (.int l1)]) (xEntN_ok [.ref (ad E l0), .int l1] 2) (fun p e s m args below meth c C hr hn => ?_)
  unfold DX8_net at h
  refine x_aload_n (pc := 0) C dX8_net_0 rfl rfl ?_
  refine x_iconst (v := 0) (pc := 1) C dX8_net_1 (by decide) ?_
  obtain ⟨k, h⟩ := chk_s h
  obtain ⟨σ1, e1, h⟩ := wlet_s h
  refine x_putI (pc := 2) C pX8_112 rfl k dX8_net_2 (x_eq e1 ?_)
  refine x_aload_n (pc := 5) C dX8_net_5 rfl rfl ?_
  refine x_iload_n (pc := 6) C dX8_net_6 rfl rfl ?_
  obtain ⟨k, h⟩ := chk_s h
  have k2 := k
  obtain ⟨v2, σ3, k, h⟩ := bnd_s h
  refine x_callV1 (pc := 7) C (mX8_isCarrier E l k) cl6 k2 cX8_315 nX8_isCarrier sX8_isCarrier rfl rfl (Nat.le_of_ble_eq_true rfl) ⟨Nat.le_of_ble_eq_true rfl, Nat.le_of_ble_eq_true rfl, Nat.le_of_ble_eq_true rfl, Nat.le_of_ble_eq_true rfl⟩ dX8_net_7 ?_
  refine x_if_eq (pc := 10) (tgt := 21) C dX8_net_10 (by decide) (fun q => ?_) (fun q => ?_)
  · rw [if_pos q] at h
    refine x_ldc_w (pc := 21) C kX8_431 dX8_net_21 ?_
    exact x_sub (tX8_net_24 C hr h) (xLe_n (xLe_n xLe_0))
  · rw [if_neg q] at h
    refine x_aload_n (pc := 13) C dX8_net_13 rfl rfl ?_
    refine x_iload_n (pc := 14) C dX8_net_14 rfl rfl ?_
    obtain ⟨k, h⟩ := chk_s h
    have k2 := k
    obtain ⟨v4, σ5, k, h⟩ := bnd_s h
    refine x_callV1 (pc := 15) C (mX8_netOf E l k) cl6 k2 cX8_422 nX8_netOf sX8_netOf rfl rfl (Nat.le_of_ble_eq_true rfl) ⟨Nat.le_of_ble_eq_true rfl, Nat.le_of_ble_eq_true rfl, Nat.le_of_ble_eq_true rfl, Nat.le_of_ble_eq_true rfl⟩ dX8_net_15 ?_
    refine x_goto (tgt := 24) (pc := 18) C dX8_net_18 (by decide) ?_
    exact x_sub (tX8_net_24 C hr h) (xLe_n (xLe_n xLe_0))
def DX8_cleared_29 (s0 : Int32) (σ : Sg) : Option (Int32 × Sg) :=
  some (s0, σ)
theorem tX8_cleared_29 {r : Int32} {σ' : Sg} (C : Cx E p s m args meth c RX8 cX8_cleared 2) (hr : meth.sig.returnType = (some .int)) {s0 : Int32} {σ : Sg} (h : DX8_cleared_29 s0 σ = some (r, σ')) : Y E p l e (rmA 2 0 0) s m args below meth c (some (.int r)) σ' 0 0 2 0 0 σ 29 [none, none] [.int s0] := by
  unfold DX8_cleared_29 at h
  cases h
  exact x_iret C hr dX8_cleared_29
def DX8_cleared (l0 : Nat) (l1 : Int32) (σ : Sg) : Option (Int32 × Sg) :=
  chk (ckO σ 6 l0) <|
  wlet (pI σ l0 0 (0 : Int32)) fun σ1 =>
  chk (ckO σ1 6 l0) <|
  bnd (DX8_isCarrier l0 l1 σ1) fun v2 σ3 =>
  if v2 = 0 then
    DX8_cleared_29 (-1000000000 : Int32) σ3
  else
    chk (ckO σ3 6 l0) <|
    chk (ckV (gR σ3 l0 20)) <|
    chk (ckI σ3 (gR σ3 l0 20) ((228 : Int32) + l1)) <|
    DX8_cleared_29 (aI σ3 (gR σ3 l0 20) ((228 : Int32) + l1).toNatClampNeg) σ3
theorem mX8_cleared (E : Ev) (l : Launch) {l0 : Nat} {l1 : Int32} {σ : Sg} {r : Int32} {σ' : Sg} (h : DX8_cleared l0 l1 σ = some (r, σ')) : Mt E l yX8_cleared cX8_cleared 2 (some .int) 2 0 0 [.ref (ad E l0), .int l1] σ (some (.int r)) σ' := by
  refine Mt.ofX (by decide) (Nat.le_of_ble_eq_true rfl) (L0 := [some (.ref (ad E l0)), some (.int l1)]) (xEntN_ok [.ref (ad E l0), .int l1] 2) (fun p e s m args below meth c C hr hn => ?_)
  unfold DX8_cleared at h
  refine x_aload_n (pc := 0) C dX8_cleared_0 rfl rfl ?_
  refine x_iconst (v := 0) (pc := 1) C dX8_cleared_1 (by decide) ?_
  obtain ⟨k, h⟩ := chk_s h
  obtain ⟨σ1, e1, h⟩ := wlet_s h
  refine x_putI (pc := 2) C pX8_112 rfl k dX8_cleared_2 (x_eq e1 ?_)
  refine x_aload_n (pc := 5) C dX8_cleared_5 rfl rfl ?_
  refine x_iload_n (pc := 6) C dX8_cleared_6 rfl rfl ?_
  obtain ⟨k, h⟩ := chk_s h
  have k2 := k
  obtain ⟨v2, σ3, k, h⟩ := bnd_s h
  refine x_callV1 (pc := 7) C (mX8_isCarrier E l k) cl6 k2 cX8_315 nX8_isCarrier sX8_isCarrier rfl rfl (Nat.le_of_ble_eq_true rfl) ⟨Nat.le_of_ble_eq_true rfl, Nat.le_of_ble_eq_true rfl, Nat.le_of_ble_eq_true rfl, Nat.le_of_ble_eq_true rfl⟩ dX8_cleared_7 ?_
  refine x_if_eq (pc := 10) (tgt := 26) C dX8_cleared_10 (by decide) (fun q => ?_) (fun q => ?_)
  · rw [if_pos q] at h
    refine x_ldc_w (pc := 26) C kX8_431 dX8_cleared_26 ?_
    exact x_sub (tX8_cleared_29 C hr h) (xLe_n (xLe_n xLe_0))
  · rw [if_neg q] at h
    refine x_aload_n (pc := 13) C dX8_cleared_13 rfl rfl ?_
    obtain ⟨k, h⟩ := chk_s h
    have k2 := k
    obtain ⟨k, h⟩ := chk_s h
    refine x_getR (pc := 14) C fX8_37 rfl k2 k dX8_cleared_14 ?_
    refine x_sipush (v := 228) (pc := 17) C dX8_cleared_17 (by decide) ?_
    refine x_iload_n (pc := 20) C dX8_cleared_20 rfl rfl ?_
    refine x_iadd (pc := 21) C dX8_cleared_21 ?_
    obtain ⟨k, h⟩ := chk_s h
    refine x_iald (pc := 22) C k dX8_cleared_22 ?_
    refine x_goto (tgt := 29) (pc := 23) C dX8_cleared_23 (by decide) ?_
    exact x_sub (tX8_cleared_29 C hr h) (xLe_n (xLe_n xLe_0))
def DX8_payments (l0 : Nat) (σ : Sg) : Option (Int32 × Sg) :=
  chk (ckO σ 6 l0) <|
  wlet (pI σ l0 0 (0 : Int32)) fun σ1 =>
  chk (ckO σ1 6 l0) <|
  bnd (DX8_laysPayments l0 σ1) fun _ σ2 =>
  chk (ckO σ2 6 l0) <|
  some ((gI σ2 l0 57), σ2)
theorem mX8_payments (E : Ev) (l : Launch) {l0 : Nat} {σ : Sg} {r : Int32} {σ' : Sg} (h : DX8_payments l0 σ = some (r, σ')) : Mt E l yX8_payments cX8_payments 1 (some .int) 3 0 0 [.ref (ad E l0)] σ (some (.int r)) σ' := by
  refine Mt.ofX (by decide) (Nat.le_of_ble_eq_true rfl) (L0 := [some (.ref (ad E l0))]) (xEntN_ok [.ref (ad E l0)] 1) (fun p e s m args below meth c C hr hn => ?_)
  unfold DX8_payments at h
  refine x_aload_n (pc := 0) C dX8_payments_0 rfl rfl ?_
  refine x_iconst (v := 0) (pc := 1) C dX8_payments_1 (by decide) ?_
  obtain ⟨k, h⟩ := chk_s h
  obtain ⟨σ1, e1, h⟩ := wlet_s h
  refine x_putI (pc := 2) C pX8_112 rfl k dX8_payments_2 (x_eq e1 ?_)
  refine x_aload_n (pc := 5) C dX8_payments_5 rfl rfl ?_
  obtain ⟨k, h⟩ := chk_s h
  have k2 := k
  obtain ⟨u0, σ2, k, h⟩ := bnd_s h
  refine x_callV0 (pc := 6) C (mX8_laysPayments E l k) cl6 k2 cX8_428 nX8_laysPayments sX8_laysPayments rfl rfl (Nat.le_of_ble_eq_true rfl) ⟨Nat.le_of_ble_eq_true rfl, Nat.le_of_ble_eq_true rfl, Nat.le_of_ble_eq_true rfl, Nat.le_of_ble_eq_true rfl⟩ dX8_payments_6 ?_
  refine x_aload_n (pc := 9) C dX8_payments_9 rfl rfl ?_
  obtain ⟨k, h⟩ := chk_s h
  refine x_getI (pc := 10) C fX8_419 rfl k dX8_payments_10 ?_
  cases h
  exact x_iret C hr dX8_payments_13
def DX8_payment_18 (σ : Sg) : Option (Int32 × Sg) :=
  some ((-1 : Int32), σ)
theorem tX8_payment_18 {r : Int32} {σ' : Sg} (C : Cx E p s m args meth c RX8 cX8_payment 3) (hr : meth.sig.returnType = (some .int)) {σ : Sg} (h : DX8_payment_18  σ = some (r, σ')) : Y E p l e (rmA 3 0 0) s m args below meth c (some (.int r)) σ' 0 0 3 0 0 σ 18 [none, none, none] [] := by
  unfold DX8_payment_18 at h
  refine x_iconst (v := -1) (pc := 18) C dX8_payment_18 (by decide) ?_
  cases h
  exact x_iret C hr dX8_payment_19
def DX8_payment_68 (s0 : Int32) (σ : Sg) : Option (Int32 × Sg) :=
  some (s0, σ)
theorem tX8_payment_68 {r : Int32} {σ' : Sg} (C : Cx E p s m args meth c RX8 cX8_payment 3) (hr : meth.sig.returnType = (some .int)) {s0 : Int32} {σ : Sg} (h : DX8_payment_68 s0 σ = some (r, σ')) : Y E p l e (rmA 3 0 0) s m args below meth c (some (.int r)) σ' 0 0 3 0 0 σ 68 [none, none, none] [.int s0] := by
  unfold DX8_payment_68 at h
  cases h
  exact x_iret C hr dX8_payment_68
def DX8_payment (l0 : Nat) (l1 : Int32) (l2 : Int32) (σ : Sg) : Option (Int32 × Sg) :=
  chk (ckO σ 6 l0) <|
  wlet (pI σ l0 0 (0 : Int32)) fun σ1 =>
  if l1 < 0 then
    DX8_payment_18 σ1
  else
    if l2 < 0 then
      DX8_payment_18 σ1
    else
      if l2 ≤ (2 : Int32) then
        chk (ckO σ1 6 l0) <|
        bnd (DX8_laysPayments l0 σ1) fun _ σ2 =>
        chk (ckO σ2 6 l0) <|
        if l1 < (gI σ2 l0 57) then
          if l2 = 0 then
            chk (ckO σ2 6 l0) <|
            chk (ckV (gR σ2 l0 53)) <|
            chk (ckI σ2 (gR σ2 l0 53) l1) <|
            DX8_payment_68 (aI σ2 (gR σ2 l0 53) l1.toNatClampNeg) σ2
          else
            if l2 = (1 : Int32) then
              chk (ckO σ2 6 l0) <|
              chk (ckV (gR σ2 l0 54)) <|
              chk (ckI σ2 (gR σ2 l0 54) l1) <|
              DX8_payment_68 (aI σ2 (gR σ2 l0 54) l1.toNatClampNeg) σ2
            else
              chk (ckO σ2 6 l0) <|
              chk (ckV (gR σ2 l0 55)) <|
              chk (ckI σ2 (gR σ2 l0 55) l1) <|
              DX8_payment_68 (aI σ2 (gR σ2 l0 55) l1.toNatClampNeg) σ2
        else
          some ((-2 : Int32), σ2)
      else
        DX8_payment_18 σ1
theorem mX8_payment (E : Ev) (l : Launch) {l0 : Nat} {l1 : Int32} {l2 : Int32} {σ : Sg} {r : Int32} {σ' : Sg} (h : DX8_payment l0 l1 l2 σ = some (r, σ')) : Mt E l yX8_payment cX8_payment 3 (some .int) 3 0 0 [.ref (ad E l0), .int l1, .int l2] σ (some (.int r)) σ' := by
  refine Mt.ofX (by decide) (Nat.le_of_ble_eq_true rfl) (L0 := [some (.ref (ad E l0)), some (.int l1), some (.int l2)]) (xEntN_ok [.ref (ad E l0), .int l1, .int l2] 3) (fun p e s m args below meth c C hr hn => ?_)
  unfold DX8_payment at h
  refine x_aload_n (pc := 0) C dX8_payment_0 rfl rfl ?_
  refine x_iconst (v := 0) (pc := 1) C dX8_payment_1 (by decide) ?_
  obtain ⟨k, h⟩ := chk_s h
  obtain ⟨σ1, e1, h⟩ := wlet_s h
  refine x_putI (pc := 2) C pX8_112 rfl k dX8_payment_2 (x_eq e1 ?_)
  refine x_iload_n (pc := 5) C dX8_payment_5 rfl rfl ?_
  refine x_if_lt (pc := 6) (tgt := 18) C dX8_payment_6 (by decide) (fun q => ?_) (fun q => ?_)
  · rw [if_pos q] at h
    exact x_sub (tX8_payment_18 C hr h) (xLe_n (xLe_n (xLe_n xLe_0)))
  · rw [if_neg q] at h
    refine x_iload_n (pc := 9) C dX8_payment_9 rfl rfl ?_
    refine x_if_lt (pc := 10) (tgt := 18) C dX8_payment_10 (by decide) (fun q => ?_) (fun q => ?_)
    · rw [if_pos q] at h
      exact x_sub (tX8_payment_18 C hr h) (xLe_n (xLe_n (xLe_n xLe_0)))
    · rw [if_neg q] at h
      refine x_iload_n (pc := 13) C dX8_payment_13 rfl rfl ?_
      refine x_iconst (v := 2) (pc := 14) C dX8_payment_14 (by decide) ?_
      refine x_icmp_le (pc := 15) (tgt := 20) C dX8_payment_15 (by decide) (fun q => ?_) (fun q => ?_)
      · rw [if_pos q] at h
        refine x_aload_n (pc := 20) C dX8_payment_20 rfl rfl ?_
        obtain ⟨k, h⟩ := chk_s h
        have k2 := k
        obtain ⟨u0, σ2, k, h⟩ := bnd_s h
        refine x_callV0 (pc := 21) C (mX8_laysPayments E l k) cl6 k2 cX8_428 nX8_laysPayments sX8_laysPayments rfl rfl (Nat.le_of_ble_eq_true rfl) ⟨Nat.le_of_ble_eq_true rfl, Nat.le_of_ble_eq_true rfl, Nat.le_of_ble_eq_true rfl, Nat.le_of_ble_eq_true rfl⟩ dX8_payment_21 ?_
        refine x_iload_n (pc := 24) C dX8_payment_24 rfl rfl ?_
        refine x_aload_n (pc := 25) C dX8_payment_25 rfl rfl ?_
        obtain ⟨k, h⟩ := chk_s h
        refine x_getI (pc := 26) C fX8_419 rfl k dX8_payment_26 ?_
        refine x_icmp_lt (pc := 29) (tgt := 35) C dX8_payment_29 (by decide) (fun q => ?_) (fun q => ?_)
        · rw [if_pos q] at h
          refine x_iload_n (pc := 35) C dX8_payment_35 rfl rfl ?_
          refine x_if_ne (pc := 36) (tgt := 48) C dX8_payment_36 (by decide) (fun q => ?_) (fun q => ?_)
          · rw [if_pos q] at h
            refine x_aload_n (pc := 39) C dX8_payment_39 rfl rfl ?_
            obtain ⟨k, h⟩ := chk_s h
            have k2 := k
            obtain ⟨k, h⟩ := chk_s h
            refine x_getR (pc := 40) C fX8_94 rfl k2 k dX8_payment_40 ?_
            refine x_iload_n (pc := 43) C dX8_payment_43 rfl rfl ?_
            obtain ⟨k, h⟩ := chk_s h
            refine x_iald (pc := 44) C k dX8_payment_44 ?_
            refine x_goto (tgt := 68) (pc := 45) C dX8_payment_45 (by decide) ?_
            exact x_sub (tX8_payment_68 C hr h) (xLe_n (xLe_n (xLe_n xLe_0)))
          · rw [if_neg q] at h
            refine x_iload_n (pc := 48) C dX8_payment_48 rfl rfl ?_
            refine x_iconst (v := 1) (pc := 49) C dX8_payment_49 (by decide) ?_
            refine x_icmp_ne (pc := 50) (tgt := 62) C dX8_payment_50 (by decide) (fun q => ?_) (fun q => ?_)
            · rw [if_pos q] at h
              refine x_aload_n (pc := 53) C dX8_payment_53 rfl rfl ?_
              obtain ⟨k, h⟩ := chk_s h
              have k2 := k
              obtain ⟨k, h⟩ := chk_s h
              refine x_getR (pc := 54) C fX8_97 rfl k2 k dX8_payment_54 ?_
              refine x_iload_n (pc := 57) C dX8_payment_57 rfl rfl ?_
              obtain ⟨k, h⟩ := chk_s h
              refine x_iald (pc := 58) C k dX8_payment_58 ?_
              refine x_goto (tgt := 68) (pc := 59) C dX8_payment_59 (by decide) ?_
              exact x_sub (tX8_payment_68 C hr h) (xLe_n (xLe_n (xLe_n xLe_0)))
            · rw [if_neg q] at h
              refine x_aload_n (pc := 62) C dX8_payment_62 rfl rfl ?_
              obtain ⟨k, h⟩ := chk_s h
              have k2 := k
              obtain ⟨k, h⟩ := chk_s h
              refine x_getR (pc := 63) C fX8_100 rfl k2 k dX8_payment_63 ?_
              refine x_iload_n (pc := 66) C dX8_payment_66 rfl rfl ?_
              obtain ⟨k, h⟩ := chk_s h
              refine x_iald (pc := 67) C k dX8_payment_67 ?_
              exact x_sub (tX8_payment_68 C hr h) (xLe_n (xLe_n (xLe_n xLe_0)))
        · rw [if_neg q] at h
          refine x_bipush (v := -2) (pc := 32) C dX8_payment_32 (by decide) ?_
          cases h
          exact x_iret C hr dX8_payment_34
      · rw [if_neg q] at h
        exact x_sub (tX8_payment_18 C hr h) (xLe_n (xLe_n (xLe_n xLe_0)))
def DX8_endorsed (l0 : Nat) (l1 : Int32) (l2 : Int32) (l3 : Int32) (σ : Sg) : Option (Int32 × Sg) :=
  chk (ckO σ 6 l0) <|
  bnd (DX8_carrierOf l0 l1 l2 σ) fun v1 σ2 =>
  chk (ckO σ2 6 l0) <|
  chk (ckV (gR σ2 l0 20)) <|
  chk (ckI σ2 (gR σ2 l0 20) (((0 : Int32) + ((8 : Int32) * l1)) + l2)) <|
  wlet (wI σ2 (gR σ2 l0 20) (((0 : Int32) + ((8 : Int32) * l1)) + l2).toNatClampNeg l3) fun σ3 =>
  chk (ckO σ3 6 l0) <|
  bnd (DX8_prorates_ l0 l1 σ3) fun _ σ4 =>
  chk (ckO σ4 6 l0) <|
  chk (ckV (gR σ4 l0 20)) <|
  chk (ckI σ4 (gR σ4 l0 20) (((0 : Int32) + ((8 : Int32) * l1)) + l2)) <|
  wlet (wI σ4 (gR σ4 l0 20) (((0 : Int32) + ((8 : Int32) * l1)) + l2).toNatClampNeg v1) fun σ5 =>
  chk (ckO σ5 6 l0) <|
  chk (ckV (gR σ5 l0 51)) <|
  chk (ckI σ5 (gR σ5 l0 51) l2) <|
  some ((aI σ5 (gR σ5 l0 51) l2.toNatClampNeg), σ5)
theorem mX8_endorsed (E : Ev) (l : Launch) {l0 : Nat} {l1 : Int32} {l2 : Int32} {l3 : Int32} {σ : Sg} {r : Int32} {σ' : Sg} (h : DX8_endorsed l0 l1 l2 l3 σ = some (r, σ')) : Mt E l yX8_endorsed cX8_endorsed 5 (some .int) 7 0 0 [.ref (ad E l0), .int l1, .int l2, .int l3] σ (some (.int r)) σ' := by
  refine Mt.ofX (by decide) (Nat.le_of_ble_eq_true rfl) (L0 := [some (.ref (ad E l0)), some (.int l1), some (.int l2), some (.int l3), none]) (xEntN_ok [.ref (ad E l0), .int l1, .int l2, .int l3] 5) (fun p e s m args below meth c C hr hn => ?_)
  unfold DX8_endorsed at h
  refine x_aload_n (pc := 0) C dX8_endorsed_0 rfl rfl ?_
  refine x_iload_n (pc := 1) C dX8_endorsed_1 rfl rfl ?_
  refine x_iload_n (pc := 2) C dX8_endorsed_2 rfl rfl ?_
  obtain ⟨k, h⟩ := chk_s h
  have k2 := k
  obtain ⟨v1, σ2, k, h⟩ := bnd_s h
  refine x_callV1 (pc := 3) C (mX8_carrierOf E l k) cl6 k2 cX8_321 nX8_carrierOf sX8_carrierOf rfl rfl (Nat.le_of_ble_eq_true rfl) ⟨Nat.le_of_ble_eq_true rfl, Nat.le_of_ble_eq_true rfl, Nat.le_of_ble_eq_true rfl, Nat.le_of_ble_eq_true rfl⟩ dX8_endorsed_3 ?_
  refine x_istore (M := [some _, some _, some _, some _, some _]) (pc := 6) C dX8_endorsed_6 (by decide) rfl ?_
  refine x_aload_n (pc := 8) C dX8_endorsed_8 rfl rfl ?_
  obtain ⟨k, h⟩ := chk_s h
  have k2 := k
  obtain ⟨k, h⟩ := chk_s h
  refine x_getR (pc := 9) C fX8_37 rfl k2 k dX8_endorsed_9 ?_
  refine x_iconst (v := 0) (pc := 12) C dX8_endorsed_12 (by decide) ?_
  refine x_bipush (v := 8) (pc := 13) C dX8_endorsed_13 (by decide) ?_
  refine x_iload_n (pc := 15) C dX8_endorsed_15 rfl rfl ?_
  refine x_imul (pc := 16) C dX8_endorsed_16 ?_
  refine x_iadd (pc := 17) C dX8_endorsed_17 ?_
  refine x_iload_n (pc := 18) C dX8_endorsed_18 rfl rfl ?_
  refine x_iadd (pc := 19) C dX8_endorsed_19 ?_
  refine x_iload_n (pc := 20) C dX8_endorsed_20 rfl rfl ?_
  obtain ⟨k, h⟩ := chk_s h
  obtain ⟨σ3, e1, h⟩ := wlet_s h
  refine x_iast (pc := 21) C k dX8_endorsed_21 (x_eq e1 ?_)
  refine x_aload_n (pc := 22) C dX8_endorsed_22 rfl rfl ?_
  refine x_iload_n (pc := 23) C dX8_endorsed_23 rfl rfl ?_
  obtain ⟨k, h⟩ := chk_s h
  have k2 := k
  obtain ⟨u0, σ4, k, h⟩ := bnd_s h
  refine x_callV0 (pc := 24) C (mX8_prorates_ E l k) cl6 k2 cX8_396 nX8_prorates_ sX8_prorates_ rfl rfl (Nat.le_of_ble_eq_true rfl) ⟨Nat.le_of_ble_eq_true rfl, Nat.le_of_ble_eq_true rfl, Nat.le_of_ble_eq_true rfl, Nat.le_of_ble_eq_true rfl⟩ dX8_endorsed_24 ?_
  refine x_aload_n (pc := 27) C dX8_endorsed_27 rfl rfl ?_
  obtain ⟨k, h⟩ := chk_s h
  have k2 := k
  obtain ⟨k, h⟩ := chk_s h
  refine x_getR (pc := 28) C fX8_37 rfl k2 k dX8_endorsed_28 ?_
  refine x_iconst (v := 0) (pc := 31) C dX8_endorsed_31 (by decide) ?_
  refine x_bipush (v := 8) (pc := 32) C dX8_endorsed_32 (by decide) ?_
  refine x_iload_n (pc := 34) C dX8_endorsed_34 rfl rfl ?_
  refine x_imul (pc := 35) C dX8_endorsed_35 ?_
  refine x_iadd (pc := 36) C dX8_endorsed_36 ?_
  refine x_iload_n (pc := 37) C dX8_endorsed_37 rfl rfl ?_
  refine x_iadd (pc := 38) C dX8_endorsed_38 ?_
  refine x_iload (pc := 39) C dX8_endorsed_39 rfl ?_
  obtain ⟨k, h⟩ := chk_s h
  obtain ⟨σ5, e1, h⟩ := wlet_s h
  refine x_iast (pc := 41) C k dX8_endorsed_41 (x_eq e1 ?_)
  refine x_aload_n (pc := 42) C dX8_endorsed_42 rfl rfl ?_
  obtain ⟨k, h⟩ := chk_s h
  have k2 := k
  obtain ⟨k, h⟩ := chk_s h
  refine x_getR (pc := 43) C fX8_88 rfl k2 k dX8_endorsed_43 ?_
  refine x_iload_n (pc := 46) C dX8_endorsed_46 rfl rfl ?_
  obtain ⟨k, h⟩ := chk_s h
  refine x_iald (pc := 47) C k dX8_endorsed_47 ?_
  cases h
  exact x_iret C hr dX8_endorsed_48
def DX8_wouldEndorse_31 (s0 : Int32) (σ : Sg) : Option (Int32 × Sg) :=
  some (s0, σ)
theorem tX8_wouldEndorse_31 {r : Int32} {σ' : Sg} (C : Cx E p s m args meth c RX8 cX8_wouldEndorse 5) (hr : meth.sig.returnType = (some .int)) {s0 : Int32} {σ : Sg} (h : DX8_wouldEndorse_31 s0 σ = some (r, σ')) : Y E p l e (rmA 8 0 0) s m args below meth c (some (.int r)) σ' 0 0 5 0 0 σ 31 [none, none, none, none, none] [.int s0] := by
  unfold DX8_wouldEndorse_31 at h
  cases h
  exact x_iret C hr dX8_wouldEndorse_31
def DX8_wouldEndorse (l0 : Nat) (l1 : Int32) (l2 : Int32) (l3 : Int32) (σ : Sg) : Option (Int32 × Sg) :=
  chk (ckO σ 6 l0) <|
  wlet (pI σ l0 0 (0 : Int32)) fun σ1 =>
  chk (ckO σ1 6 l0) <|
  bnd (DX8_whyNotEndorsed l0 l1 l2 l3 σ1) fun v2 σ3 =>
  if 0 ≤ v2 then
    chk (ckO σ3 6 l0) <|
    bnd (DX8_endorsed l0 l1 l2 l3 σ3) fun v4 σ5 =>
    DX8_wouldEndorse_31 v4 σ5
  else
    DX8_wouldEndorse_31 v2 σ3
theorem mX8_wouldEndorse (E : Ev) (l : Launch) {l0 : Nat} {l1 : Int32} {l2 : Int32} {l3 : Int32} {σ : Sg} {r : Int32} {σ' : Sg} (h : DX8_wouldEndorse l0 l1 l2 l3 σ = some (r, σ')) : Mt E l yX8_wouldEndorse cX8_wouldEndorse 5 (some .int) 8 0 0 [.ref (ad E l0), .int l1, .int l2, .int l3] σ (some (.int r)) σ' := by
  refine Mt.ofX (by decide) (Nat.le_of_ble_eq_true rfl) (L0 := [some (.ref (ad E l0)), some (.int l1), some (.int l2), some (.int l3), none]) (xEntN_ok [.ref (ad E l0), .int l1, .int l2, .int l3] 5) (fun p e s m args below meth c C hr hn => ?_)
  unfold DX8_wouldEndorse at h
  refine x_aload_n (pc := 0) C dX8_wouldEndorse_0 rfl rfl ?_
  refine x_iconst (v := 0) (pc := 1) C dX8_wouldEndorse_1 (by decide) ?_
  obtain ⟨k, h⟩ := chk_s h
  obtain ⟨σ1, e1, h⟩ := wlet_s h
  refine x_putI (pc := 2) C pX8_112 rfl k dX8_wouldEndorse_2 (x_eq e1 ?_)
  refine x_aload_n (pc := 5) C dX8_wouldEndorse_5 rfl rfl ?_
  refine x_iload_n (pc := 6) C dX8_wouldEndorse_6 rfl rfl ?_
  refine x_iload_n (pc := 7) C dX8_wouldEndorse_7 rfl rfl ?_
  refine x_iload_n (pc := 8) C dX8_wouldEndorse_8 rfl rfl ?_
  obtain ⟨k, h⟩ := chk_s h
  have k2 := k
  obtain ⟨v2, σ3, k, h⟩ := bnd_s h
  refine x_callV1 (pc := 9) C (mX8_whyNotEndorsed E l k) cl6 k2 cX8_413 nX8_whyNotEndorsed sX8_whyNotEndorsed rfl rfl (Nat.le_of_ble_eq_true rfl) ⟨Nat.le_of_ble_eq_true rfl, Nat.le_of_ble_eq_true rfl, Nat.le_of_ble_eq_true rfl, Nat.le_of_ble_eq_true rfl⟩ dX8_wouldEndorse_9 ?_
  refine x_istore (M := [some _, some _, some _, some _, some _]) (pc := 12) C dX8_wouldEndorse_12 (by decide) rfl ?_
  refine x_iload (pc := 14) C dX8_wouldEndorse_14 rfl ?_
  refine x_if_ge (pc := 16) (tgt := 24) C dX8_wouldEndorse_16 (by decide) (fun q => ?_) (fun q => ?_)
  · rw [if_pos q] at h
    refine x_aload_n (pc := 24) C dX8_wouldEndorse_24 rfl rfl ?_
    refine x_iload_n (pc := 25) C dX8_wouldEndorse_25 rfl rfl ?_
    refine x_iload_n (pc := 26) C dX8_wouldEndorse_26 rfl rfl ?_
    refine x_iload_n (pc := 27) C dX8_wouldEndorse_27 rfl rfl ?_
    obtain ⟨k, h⟩ := chk_s h
    have k2 := k
    obtain ⟨v4, σ5, k, h⟩ := bnd_s h
    refine x_callV1 (pc := 28) C (mX8_endorsed E l k) cl6 k2 cX8_432 nX8_endorsed sX8_endorsed rfl rfl (Nat.le_of_ble_eq_true rfl) ⟨Nat.le_of_ble_eq_true rfl, Nat.le_of_ble_eq_true rfl, Nat.le_of_ble_eq_true rfl, Nat.le_of_ble_eq_true rfl⟩ dX8_wouldEndorse_28 ?_
    exact x_sub (tX8_wouldEndorse_31 C hr h) (xLe_n (xLe_n (xLe_n (xLe_n (xLe_n xLe_0)))))
  · rw [if_neg q] at h
    refine x_iload (pc := 19) C dX8_wouldEndorse_19 rfl ?_
    refine x_goto (tgt := 31) (pc := 21) C dX8_wouldEndorse_21 (by decide) ?_
    exact x_sub (tX8_wouldEndorse_31 C hr h) (xLe_n (xLe_n (xLe_n (xLe_n (xLe_n xLe_0)))))
def DX8_cheapest_14 (σ : Sg) : Option (Int32 × Sg) :=
  some ((-1 : Int32), σ)
theorem tX8_cheapest_14 {r : Int32} {σ' : Sg} (C : Cx E p s m args meth c RX8 cX8_cheapest 9) (hr : meth.sig.returnType = (some .int)) {σ : Sg} (h : DX8_cheapest_14  σ = some (r, σ')) : Y E p l e (rmA 8 0 0) s m args below meth c (some (.int r)) σ' 0 0 9 0 0 σ 14 [none, none, none, none, none, none, none, none, none] [] := by
  unfold DX8_cheapest_14 at h
  refine x_iconst (v := -1) (pc := 14) C dX8_cheapest_14 (by decide) ?_
  cases h
  exact x_iret C hr dX8_cheapest_15
def DX8_cheapest_85 (K48 : Nat → Int32 → Int32 → Int32 → Int32 → Int32 → Int32 → Sg → Option (Int32 × Sg)) (l0 : Nat) (l1 : Int32) (l2 : Int32) (l3 : Int32) (l5 : Int32) (l6 : Int32) (l7 : Int32) (σ : Sg) : Option (Int32 × Sg) :=
  K48 l0 l1 l2 l3 l5 l6 (l7 + (1 : Int32)) σ
theorem tX8_cheapest_85 {r : Int32} {σ' : Sg} (C : Cx E p s m args meth c RX8 cX8_cheapest 9) (hr : meth.sig.returnType = (some .int)) {K48 : Nat → Int32 → Int32 → Int32 → Int32 → Int32 → Int32 → Sg → Option (Int32 × Sg)} (hK48 : ∀ (l0 : Nat) (l1 : Int32) (l2 : Int32) (l3 : Int32) (l5 : Int32) (l6 : Int32) (l7 : Int32) (σ : Sg), K48 l0 l1 l2 l3 l5 l6 l7 σ = some (r, σ') → Y E p l e (rmA 8 0 0) s m args below meth c (some (.int r)) σ' 0 0 9 0 0 σ 48 [some (.ref (ad E l0)), some (.int l1), some (.int l2), some (.int l3), none, some (.int l5), some (.int l6), some (.int l7), none] []) {l0 : Nat} {l1 : Int32} {l2 : Int32} {l3 : Int32} {l5 : Int32} {l6 : Int32} {l7 : Int32} {σ : Sg} (h : DX8_cheapest_85 K48 l0 l1 l2 l3 l5 l6 l7 σ = some (r, σ')) : Y E p l e (rmA 8 0 0) s m args below meth c (some (.int r)) σ' 0 0 9 0 0 σ 85 [some (.ref (ad E l0)), some (.int l1), some (.int l2), some (.int l3), none, some (.int l5), some (.int l6), some (.int l7), none] [] := by
  unfold DX8_cheapest_85 at h
  refine x_iinc (v := 1) (M := [some _, some _, some _, some _, none, some _, some _, some _, none]) (pc := 85) C dX8_cheapest_85 rfl (by decide) (by decide) rfl ?_
  refine x_goto (tgt := 48) (pc := 88) C dX8_cheapest_88 (by decide) ?_
  exact x_sub (hK48 _ _ _ _ _ _ _ _ h) (xLe_s (xLe_s (xLe_s (xLe_s (xLe_n (xLe_s (xLe_s (xLe_s (xLe_n xLe_0)))))))))
def DX8_cheapest_102 (s0 : Int32) (σ : Sg) : Option (Int32 × Sg) :=
  some (s0, σ)
theorem tX8_cheapest_102 {r : Int32} {σ' : Sg} (C : Cx E p s m args meth c RX8 cX8_cheapest 9) (hr : meth.sig.returnType = (some .int)) {s0 : Int32} {σ : Sg} (h : DX8_cheapest_102 s0 σ = some (r, σ')) : Y E p l e (rmA 8 0 0) s m args below meth c (some (.int r)) σ' 0 0 9 0 0 σ 102 [none, none, none, none, none, none, none, none, none] [.int s0] := by
  unfold DX8_cheapest_102 at h
  cases h
  exact x_iret C hr dX8_cheapest_102
def DX8_cheapest_91 (l3 : Int32) (l5 : Int32) (l6 : Int32) (σ : Sg) : Option (Int32 × Sg) :=
  if l3 = 0 then
    DX8_cheapest_102 l5 σ
  else
    DX8_cheapest_102 l6 σ
theorem tX8_cheapest_91 {r : Int32} {σ' : Sg} (C : Cx E p s m args meth c RX8 cX8_cheapest 9) (hr : meth.sig.returnType = (some .int)) {l3 : Int32} {l5 : Int32} {l6 : Int32} {σ : Sg} (h : DX8_cheapest_91 l3 l5 l6 σ = some (r, σ')) : Y E p l e (rmA 8 0 0) s m args below meth c (some (.int r)) σ' 0 0 9 0 0 σ 91 [none, none, none, some (.int l3), none, some (.int l5), some (.int l6), none, none] [] := by
  unfold DX8_cheapest_91 at h
  refine x_iload_n (pc := 91) C dX8_cheapest_91 rfl rfl ?_
  refine x_if_ne (pc := 92) (tgt := 100) C dX8_cheapest_92 (by decide) (fun q => ?_) (fun q => ?_)
  · rw [if_pos q] at h
    refine x_iload (pc := 95) C dX8_cheapest_95 rfl ?_
    refine x_goto (tgt := 102) (pc := 97) C dX8_cheapest_97 (by decide) ?_
    exact x_sub (tX8_cheapest_102 C hr h) (xLe_n (xLe_n (xLe_n (xLe_n (xLe_n (xLe_n (xLe_n (xLe_n (xLe_n xLe_0)))))))))
  · rw [if_neg q] at h
    refine x_iload (pc := 100) C dX8_cheapest_100 rfl ?_
    exact x_sub (tX8_cheapest_102 C hr h) (xLe_n (xLe_n (xLe_n (xLe_n (xLe_n (xLe_n (xLe_n (xLe_n (xLe_n xLe_0)))))))))
def DX8_cheapest_48 : Nat → Nat → Int32 → Int32 → Int32 → Int32 → Int32 → Int32 → Sg → Option (Int32 × Sg)
  | 0, _, _, _, _, _, _, _, _ => none
  | n + 1, l0, l1, l2, l3, l5, l6, l7, σ =>
    chk (ckO σ 6 l0) <|
    if (gI σ l0 4) ≤ l7 then
      DX8_cheapest_91 l3 l5 l6 σ
    else
      chk (ckO σ 6 l0) <|
      bnd (DX8_endorsed l0 l1 l2 l7 σ) fun v1 σ2 =>
      if v1 < l6 then
        DX8_cheapest_85 (DX8_cheapest_48 n) l0 l1 l2 l3 l7 v1 l7 σ2
      else
        DX8_cheapest_85 (DX8_cheapest_48 n) l0 l1 l2 l3 l5 l6 l7 σ2
theorem tX8_cheapest_48 {r : Int32} {σ' : Sg} (C : Cx E p s m args meth c RX8 cX8_cheapest 9) (hr : meth.sig.returnType = (some .int)) : ∀ (n : Nat) (l0 : Nat) (l1 : Int32) (l2 : Int32) (l3 : Int32) (l5 : Int32) (l6 : Int32) (l7 : Int32) (σ : Sg) (h : DX8_cheapest_48 n l0 l1 l2 l3 l5 l6 l7 σ = some (r, σ')), Y E p l e (rmA 8 0 0) s m args below meth c (some (.int r)) σ' 0 0 9 0 0 σ 48 [some (.ref (ad E l0)), some (.int l1), some (.int l2), some (.int l3), none, some (.int l5), some (.int l6), some (.int l7), none] [] := by
  intro n
  induction n with
  | zero => intro l0 l1 l2 l3 l5 l6 l7 σ h; cases h
  | succ n ih =>
    intro l0 l1 l2 l3 l5 l6 l7 σ h
    unfold DX8_cheapest_48 at h
    refine x_iload (pc := 48) C dX8_cheapest_48 rfl ?_
    refine x_aload_n (pc := 50) C dX8_cheapest_50 rfl rfl ?_
    obtain ⟨k, h⟩ := chk_s h
    refine x_getI (pc := 51) C fX8_189 rfl k dX8_cheapest_51 ?_
    refine x_icmp_ge (pc := 54) (tgt := 91) C dX8_cheapest_54 (by decide) (fun q => ?_) (fun q => ?_)
    · rw [if_pos q] at h
      exact x_sub (tX8_cheapest_91 C hr h) (xLe_n (xLe_n (xLe_n (xLe_s (xLe_n (xLe_s (xLe_s (xLe_n (xLe_n xLe_0)))))))))
    · rw [if_neg q] at h
      refine x_aload_n (pc := 57) C dX8_cheapest_57 rfl rfl ?_
      refine x_iload_n (pc := 58) C dX8_cheapest_58 rfl rfl ?_
      refine x_iload_n (pc := 59) C dX8_cheapest_59 rfl rfl ?_
      refine x_iload (pc := 60) C dX8_cheapest_60 rfl ?_
      obtain ⟨k, h⟩ := chk_s h
      have k2 := k
      obtain ⟨v1, σ2, k, h⟩ := bnd_s h
      refine x_callV1 (pc := 62) C (mX8_endorsed E l k) cl6 k2 cX8_432 nX8_endorsed sX8_endorsed rfl rfl (Nat.le_of_ble_eq_true rfl) ⟨Nat.le_of_ble_eq_true rfl, Nat.le_of_ble_eq_true rfl, Nat.le_of_ble_eq_true rfl, Nat.le_of_ble_eq_true rfl⟩ dX8_cheapest_62 ?_
      refine x_istore (M := [some _, some _, some _, some _, none, some _, some _, some _, some _]) (pc := 65) C dX8_cheapest_65 (by decide) rfl ?_
      refine x_iload (pc := 67) C dX8_cheapest_67 rfl ?_
      refine x_iload (pc := 69) C dX8_cheapest_69 rfl ?_
      refine x_icmp_lt (pc := 71) (tgt := 77) C dX8_cheapest_71 (by decide) (fun q => ?_) (fun q => ?_)
      · rw [if_pos q] at h
        refine x_iload (pc := 77) C dX8_cheapest_77 rfl ?_
        refine x_istore (M := [some _, some _, some _, some _, none, some _, some _, some _, some _]) (pc := 79) C dX8_cheapest_79 (by decide) rfl ?_
        refine x_iload (pc := 81) C dX8_cheapest_81 rfl ?_
        refine x_istore (M := [some _, some _, some _, some _, none, some _, some _, some _, some _]) (pc := 83) C dX8_cheapest_83 (by decide) rfl ?_
        exact x_sub (tX8_cheapest_85 C hr ih h) (xLe_s (xLe_s (xLe_s (xLe_s (xLe_n (xLe_s (xLe_s (xLe_s (xLe_n xLe_0)))))))))
      · rw [if_neg q] at h
        refine x_goto (tgt := 85) (pc := 74) C dX8_cheapest_74 (by decide) ?_
        exact x_sub (tX8_cheapest_85 C hr ih h) (xLe_s (xLe_s (xLe_s (xLe_s (xLe_n (xLe_s (xLe_s (xLe_s (xLe_n xLe_0)))))))))
def DX8_cheapest (l0 : Nat) (l1 : Int32) (l2 : Int32) (l3 : Int32) (σ : Sg) : Option (Int32 × Sg) :=
  chk (ckO σ 6 l0) <|
  wlet (pI σ l0 0 (0 : Int32)) fun σ1 =>
  if l3 < 0 then
    DX8_cheapest_14 σ1
  else
    if l3 ≤ (1 : Int32) then
      chk (ckO σ1 6 l0) <|
      bnd (DX8_whyNotEndorsed l0 l1 l2 (0 : Int32) σ1) fun v2 σ3 =>
      if 0 ≤ v2 then
        chk (ckO σ3 6 l0) <|
        bnd (DX8_endorsed l0 l1 l2 (0 : Int32) σ3) fun v4 σ5 =>
        DX8_cheapest_48 FU l0 l1 l2 l3 (0 : Int32) v4 (1 : Int32) σ5
      else
        some (v2, σ3)
    else
      DX8_cheapest_14 σ1
theorem mX8_cheapest (E : Ev) (l : Launch) {l0 : Nat} {l1 : Int32} {l2 : Int32} {l3 : Int32} {σ : Sg} {r : Int32} {σ' : Sg} (h : DX8_cheapest l0 l1 l2 l3 σ = some (r, σ')) : Mt E l yX8_cheapest cX8_cheapest 9 (some .int) 8 0 0 [.ref (ad E l0), .int l1, .int l2, .int l3] σ (some (.int r)) σ' := by
  refine Mt.ofX (by decide) (Nat.le_of_ble_eq_true rfl) (L0 := [some (.ref (ad E l0)), some (.int l1), some (.int l2), some (.int l3), none, none, none, none, none]) (xEntN_ok [.ref (ad E l0), .int l1, .int l2, .int l3] 9) (fun p e s m args below meth c C hr hn => ?_)
  unfold DX8_cheapest at h
  refine x_aload_n (pc := 0) C dX8_cheapest_0 rfl rfl ?_
  refine x_iconst (v := 0) (pc := 1) C dX8_cheapest_1 (by decide) ?_
  obtain ⟨k, h⟩ := chk_s h
  obtain ⟨σ1, e1, h⟩ := wlet_s h
  refine x_putI (pc := 2) C pX8_112 rfl k dX8_cheapest_2 (x_eq e1 ?_)
  refine x_iload_n (pc := 5) C dX8_cheapest_5 rfl rfl ?_
  refine x_if_lt (pc := 6) (tgt := 14) C dX8_cheapest_6 (by decide) (fun q => ?_) (fun q => ?_)
  · rw [if_pos q] at h
    exact x_sub (tX8_cheapest_14 C hr h) (xLe_n (xLe_n (xLe_n (xLe_n (xLe_n (xLe_n (xLe_n (xLe_n (xLe_n xLe_0)))))))))
  · rw [if_neg q] at h
    refine x_iload_n (pc := 9) C dX8_cheapest_9 rfl rfl ?_
    refine x_iconst (v := 1) (pc := 10) C dX8_cheapest_10 (by decide) ?_
    refine x_icmp_le (pc := 11) (tgt := 16) C dX8_cheapest_11 (by decide) (fun q => ?_) (fun q => ?_)
    · rw [if_pos q] at h
      refine x_aload_n (pc := 16) C dX8_cheapest_16 rfl rfl ?_
      refine x_iload_n (pc := 17) C dX8_cheapest_17 rfl rfl ?_
      refine x_iload_n (pc := 18) C dX8_cheapest_18 rfl rfl ?_
      refine x_iconst (v := 0) (pc := 19) C dX8_cheapest_19 (by decide) ?_
      obtain ⟨k, h⟩ := chk_s h
      have k2 := k
      obtain ⟨v2, σ3, k, h⟩ := bnd_s h
      refine x_callV1 (pc := 20) C (mX8_whyNotEndorsed E l k) cl6 k2 cX8_413 nX8_whyNotEndorsed sX8_whyNotEndorsed rfl rfl (Nat.le_of_ble_eq_true rfl) ⟨Nat.le_of_ble_eq_true rfl, Nat.le_of_ble_eq_true rfl, Nat.le_of_ble_eq_true rfl, Nat.le_of_ble_eq_true rfl⟩ dX8_cheapest_20 ?_
      refine x_istore (M := [some _, some _, some _, some _, some _, none, none, none, none]) (pc := 23) C dX8_cheapest_23 (by decide) rfl ?_
      refine x_iload (pc := 25) C dX8_cheapest_25 rfl ?_
      refine x_if_ge (pc := 27) (tgt := 33) C dX8_cheapest_27 (by decide) (fun q => ?_) (fun q => ?_)
      · rw [if_pos q] at h
        refine x_iconst (v := 0) (pc := 33) C dX8_cheapest_33 (by decide) ?_
        refine x_istore (M := [some _, some _, some _, some _, some _, some _, none, none, none]) (pc := 34) C dX8_cheapest_34 (by decide) rfl ?_
        refine x_aload_n (pc := 36) C dX8_cheapest_36 rfl rfl ?_
        refine x_iload_n (pc := 37) C dX8_cheapest_37 rfl rfl ?_
        refine x_iload_n (pc := 38) C dX8_cheapest_38 rfl rfl ?_
        refine x_iconst (v := 0) (pc := 39) C dX8_cheapest_39 (by decide) ?_
        obtain ⟨k, h⟩ := chk_s h
        have k2 := k
        obtain ⟨v4, σ5, k, h⟩ := bnd_s h
        refine x_callV1 (pc := 40) C (mX8_endorsed E l k) cl6 k2 cX8_432 nX8_endorsed sX8_endorsed rfl rfl (Nat.le_of_ble_eq_true rfl) ⟨Nat.le_of_ble_eq_true rfl, Nat.le_of_ble_eq_true rfl, Nat.le_of_ble_eq_true rfl, Nat.le_of_ble_eq_true rfl⟩ dX8_cheapest_40 ?_
        refine x_istore (M := [some _, some _, some _, some _, some _, some _, some _, none, none]) (pc := 43) C dX8_cheapest_43 (by decide) rfl ?_
        refine x_iconst (v := 1) (pc := 45) C dX8_cheapest_45 (by decide) ?_
        refine x_istore (M := [some _, some _, some _, some _, some _, some _, some _, some _, none]) (pc := 46) C dX8_cheapest_46 (by decide) rfl ?_
        exact x_sub (tX8_cheapest_48 C hr FU _ _ _ _ _ _ _ _ h) (xLe_s (xLe_s (xLe_s (xLe_s (xLe_n (xLe_s (xLe_s (xLe_s (xLe_n xLe_0)))))))))
      · rw [if_neg q] at h
        refine x_iload (pc := 30) C dX8_cheapest_30 rfl ?_
        cases h
        exact x_iret C hr dX8_cheapest_32
    · rw [if_neg q] at h
      exact x_sub (tX8_cheapest_14 C hr h) (xLe_n (xLe_n (xLe_n (xLe_n (xLe_n (xLe_n (xLe_n (xLe_n (xLe_n xLe_0)))))))))
def DX8_ofCoupon_129 (s0 : Int32) (σ : Sg) : Option (Int32 × Sg) :=
  some (s0, σ)
theorem tX8_ofCoupon_129 {r : Int32} {σ' : Sg} (C : Cx E p s m args meth c RX8 cX8_ofCoupon 6) (hr : meth.sig.returnType = (some .int)) {s0 : Int32} {σ : Sg} (h : DX8_ofCoupon_129 s0 σ = some (r, σ')) : Y E p l e (rmA 3 0 0) s m args below meth c (some (.int r)) σ' 0 0 6 0 0 σ 129 [none, none, none, none, none, none] [.int s0] := by
  unfold DX8_ofCoupon_129 at h
  cases h
  exact x_iret C hr dX8_ofCoupon_129
def DX8_ofCoupon_75 (s0 : Int32) (σ : Sg) : Option (Int32 × Sg) :=
  some (s0, σ)
theorem tX8_ofCoupon_75 {r : Int32} {σ' : Sg} (C : Cx E p s m args meth c RX8 cX8_ofCoupon 6) (hr : meth.sig.returnType = (some .int)) {s0 : Int32} {σ : Sg} (h : DX8_ofCoupon_75 s0 σ = some (r, σ')) : Y E p l e (rmA 3 0 0) s m args below meth c (some (.int r)) σ' 0 0 6 0 0 σ 75 [none, none, none, none, none, none] [.int s0] := by
  unfold DX8_ofCoupon_75 at h
  cases h
  exact x_iret C hr dX8_ofCoupon_75
def DX8_ofCoupon_91 (s0 : Int32) (σ : Sg) : Option (Int32 × Sg) :=
  some (s0, σ)
theorem tX8_ofCoupon_91 {r : Int32} {σ' : Sg} (C : Cx E p s m args meth c RX8 cX8_ofCoupon 6) (hr : meth.sig.returnType = (some .int)) {s0 : Int32} {σ : Sg} (h : DX8_ofCoupon_91 s0 σ = some (r, σ')) : Y E p l e (rmA 3 0 0) s m args below meth c (some (.int r)) σ' 0 0 6 0 0 σ 91 [none, none, none, none, none, none] [.int s0] := by
  unfold DX8_ofCoupon_91 at h
  cases h
  exact x_iret C hr dX8_ofCoupon_91
def DX8_ofCoupon_107 (s0 : Int32) (σ : Sg) : Option (Int32 × Sg) :=
  some (s0, σ)
theorem tX8_ofCoupon_107 {r : Int32} {σ' : Sg} (C : Cx E p s m args meth c RX8 cX8_ofCoupon 6) (hr : meth.sig.returnType = (some .int)) {s0 : Int32} {σ : Sg} (h : DX8_ofCoupon_107 s0 σ = some (r, σ')) : Y E p l e (rmA 3 0 0) s m args below meth c (some (.int r)) σ' 0 0 6 0 0 σ 107 [none, none, none, none, none, none] [.int s0] := by
  unfold DX8_ofCoupon_107 at h
  cases h
  exact x_iret C hr dX8_ofCoupon_107
def DX8_ofCoupon_118 (s0 : Int32) (σ : Sg) : Option (Int32 × Sg) :=
  some (s0, σ)
theorem tX8_ofCoupon_118 {r : Int32} {σ' : Sg} (C : Cx E p s m args meth c RX8 cX8_ofCoupon 6) (hr : meth.sig.returnType = (some .int)) {s0 : Int32} {σ : Sg} (h : DX8_ofCoupon_118 s0 σ = some (r, σ')) : Y E p l e (rmA 3 0 0) s m args below meth c (some (.int r)) σ' 0 0 6 0 0 σ 118 [none, none, none, none, none, none] [.int s0] := by
  unfold DX8_ofCoupon_118 at h
  cases h
  exact x_iret C hr dX8_ofCoupon_118
def DX8_ofCoupon_26 (l0 : Nat) (l1 : Int32) (l2 : Int32) (l3 : Int32) (l4 : Int32) (s0 : Int32) (σ : Sg) : Option (Int32 × Sg) :=
  if l3 = 0 then
    if l4 = 0 then
      DX8_ofCoupon_75 (0 : Int32) σ
    else
      chk (ckO σ 6 l0) <|
      chk (ckV (gR σ l0 51)) <|
      chk (ckI σ (gR σ l0 51) l2) <|
      DX8_ofCoupon_75 (aI σ (gR σ l0 51) l2.toNatClampNeg) σ
  else
    if l3 = 1 then
      if s0 = 0 then
        DX8_ofCoupon_91 (0 : Int32) σ
      else
        chk (ckO σ 6 l0) <|
        chk (ckV (gR σ l0 51)) <|
        chk (ckI σ (gR σ l0 51) l2) <|
        DX8_ofCoupon_91 (aI σ (gR σ l0 51) l2.toNatClampNeg) σ
    else
      if l3 = 2 then
        if l4 = 0 then
          DX8_ofCoupon_107 (0 : Int32) σ
        else
          chk (ckO σ 6 l0) <|
          bnd (DX8_couponMiles l0 l1 l2 σ) fun v1 σ2 =>
          DX8_ofCoupon_107 v1 σ2
      else
        if l3 = 3 then
          if l4 = 0 then
            DX8_ofCoupon_118 (0 : Int32) σ
          else
            DX8_ofCoupon_118 (1 : Int32) σ
        else
          if s0 = 0 then
            DX8_ofCoupon_129 (0 : Int32) σ
          else
            DX8_ofCoupon_129 (1 : Int32) σ
theorem tX8_ofCoupon_26 {r : Int32} {σ' : Sg} (C : Cx E p s m args meth c RX8 cX8_ofCoupon 6) (hr : meth.sig.returnType = (some .int)) {l0 : Nat} {l1 : Int32} {l2 : Int32} {l3 : Int32} {l4 : Int32} {s0 : Int32} {σ : Sg} (h : DX8_ofCoupon_26 l0 l1 l2 l3 l4 s0 σ = some (r, σ')) : Y E p l e (rmA 3 0 0) s m args below meth c (some (.int r)) σ' 0 0 6 0 0 σ 26 [some (.ref (ad E l0)), some (.int l1), some (.int l2), some (.int l3), some (.int l4), none] [.int s0] := by
  unfold DX8_ofCoupon_26 at h
  refine x_istore (M := [some _, some _, some _, some _, some _, some _]) (pc := 26) C dX8_ofCoupon_26 (by decide) rfl ?_
  refine x_iload_n (pc := 28) C dX8_ofCoupon_28 rfl rfl ?_
  refine br_em (c := l3 = 0) (fun q0 => ?_) (fun q0 => ?_)
  · rw [if_pos q0] at h
    refine x_switchIn (pc := 29) (tgt := 60) C dX8_ofCoupon_29 (by rw [q0]; decide) (by rw [q0]; decide) (o := 31) (by rw [q0]; rfl) (by decide) ?_
    refine x_iload (pc := 60) C dX8_ofCoupon_60 rfl ?_
    refine x_if_eq (pc := 62) (tgt := 74) C dX8_ofCoupon_62 (by decide) (fun q => ?_) (fun q => ?_)
    · rw [if_pos q] at h
      refine x_iconst (v := 0) (pc := 74) C dX8_ofCoupon_74 (by decide) ?_
      exact x_sub (tX8_ofCoupon_75 C hr h) (xLe_n (xLe_n (xLe_n (xLe_n (xLe_n (xLe_n xLe_0))))))
    · rw [if_neg q] at h
      refine x_aload_n (pc := 65) C dX8_ofCoupon_65 rfl rfl ?_
      obtain ⟨k, h⟩ := chk_s h
      have k2 := k
      obtain ⟨k, h⟩ := chk_s h
      refine x_getR (pc := 66) C fX8_88 rfl k2 k dX8_ofCoupon_66 ?_
      refine x_iload_n (pc := 69) C dX8_ofCoupon_69 rfl rfl ?_
      obtain ⟨k, h⟩ := chk_s h
      refine x_iald (pc := 70) C k dX8_ofCoupon_70 ?_
      refine x_goto (tgt := 75) (pc := 71) C dX8_ofCoupon_71 (by decide) ?_
      exact x_sub (tX8_ofCoupon_75 C hr h) (xLe_n (xLe_n (xLe_n (xLe_n (xLe_n (xLe_n xLe_0))))))
  · rw [if_neg q0] at h
    refine br_em (c := l3 = 1) (fun q1 => ?_) (fun q1 => ?_)
    · rw [if_pos q1] at h
      refine x_switchIn (pc := 29) (tgt := 76) C dX8_ofCoupon_29 (by rw [q1]; decide) (by rw [q1]; decide) (o := 47) (by rw [q1]; rfl) (by decide) ?_
      refine x_iload (pc := 76) C dX8_ofCoupon_76 rfl ?_
      refine x_if_eq (pc := 78) (tgt := 90) C dX8_ofCoupon_78 (by decide) (fun q => ?_) (fun q => ?_)
      · rw [if_pos q] at h
        refine x_iconst (v := 0) (pc := 90) C dX8_ofCoupon_90 (by decide) ?_
        exact x_sub (tX8_ofCoupon_91 C hr h) (xLe_n (xLe_n (xLe_n (xLe_n (xLe_n (xLe_n xLe_0))))))
      · rw [if_neg q] at h
        refine x_aload_n (pc := 81) C dX8_ofCoupon_81 rfl rfl ?_
        obtain ⟨k, h⟩ := chk_s h
        have k2 := k
        obtain ⟨k, h⟩ := chk_s h
        refine x_getR (pc := 82) C fX8_88 rfl k2 k dX8_ofCoupon_82 ?_
        refine x_iload_n (pc := 85) C dX8_ofCoupon_85 rfl rfl ?_
        obtain ⟨k, h⟩ := chk_s h
        refine x_iald (pc := 86) C k dX8_ofCoupon_86 ?_
        refine x_goto (tgt := 91) (pc := 87) C dX8_ofCoupon_87 (by decide) ?_
        exact x_sub (tX8_ofCoupon_91 C hr h) (xLe_n (xLe_n (xLe_n (xLe_n (xLe_n (xLe_n xLe_0))))))
    · rw [if_neg q1] at h
      refine br_em (c := l3 = 2) (fun q2 => ?_) (fun q2 => ?_)
      · rw [if_pos q2] at h
        refine x_switchIn (pc := 29) (tgt := 92) C dX8_ofCoupon_29 (by rw [q2]; decide) (by rw [q2]; decide) (o := 63) (by rw [q2]; rfl) (by decide) ?_
        refine x_iload (pc := 92) C dX8_ofCoupon_92 rfl ?_
        refine x_if_eq (pc := 94) (tgt := 106) C dX8_ofCoupon_94 (by decide) (fun q => ?_) (fun q => ?_)
        · rw [if_pos q] at h
          refine x_iconst (v := 0) (pc := 106) C dX8_ofCoupon_106 (by decide) ?_
          exact x_sub (tX8_ofCoupon_107 C hr h) (xLe_n (xLe_n (xLe_n (xLe_n (xLe_n (xLe_n xLe_0))))))
        · rw [if_neg q] at h
          refine x_aload_n (pc := 97) C dX8_ofCoupon_97 rfl rfl ?_
          refine x_iload_n (pc := 98) C dX8_ofCoupon_98 rfl rfl ?_
          refine x_iload_n (pc := 99) C dX8_ofCoupon_99 rfl rfl ?_
          obtain ⟨k, h⟩ := chk_s h
          have k2 := k
          obtain ⟨v1, σ2, k, h⟩ := bnd_s h
          refine x_callV1 (pc := 100) C (mX8_couponMiles E l k) cl6 k2 cX8_318 nX8_couponMiles sX8_couponMiles rfl rfl (Nat.le_of_ble_eq_true rfl) ⟨Nat.le_of_ble_eq_true rfl, Nat.le_of_ble_eq_true rfl, Nat.le_of_ble_eq_true rfl, Nat.le_of_ble_eq_true rfl⟩ dX8_ofCoupon_100 ?_
          refine x_goto (tgt := 107) (pc := 103) C dX8_ofCoupon_103 (by decide) ?_
          exact x_sub (tX8_ofCoupon_107 C hr h) (xLe_n (xLe_n (xLe_n (xLe_n (xLe_n (xLe_n xLe_0))))))
      · rw [if_neg q2] at h
        refine br_em (c := l3 = 3) (fun q3 => ?_) (fun q3 => ?_)
        · rw [if_pos q3] at h
          refine x_switchIn (pc := 29) (tgt := 108) C dX8_ofCoupon_29 (by rw [q3]; decide) (by rw [q3]; decide) (o := 79) (by rw [q3]; rfl) (by decide) ?_
          refine x_iload (pc := 108) C dX8_ofCoupon_108 rfl ?_
          refine x_if_eq (pc := 110) (tgt := 117) C dX8_ofCoupon_110 (by decide) (fun q => ?_) (fun q => ?_)
          · rw [if_pos q] at h
            refine x_iconst (v := 0) (pc := 117) C dX8_ofCoupon_117 (by decide) ?_
            exact x_sub (tX8_ofCoupon_118 C hr h) (xLe_n (xLe_n (xLe_n (xLe_n (xLe_n (xLe_n xLe_0))))))
          · rw [if_neg q] at h
            refine x_iconst (v := 1) (pc := 113) C dX8_ofCoupon_113 (by decide) ?_
            refine x_goto (tgt := 118) (pc := 114) C dX8_ofCoupon_114 (by decide) ?_
            exact x_sub (tX8_ofCoupon_118 C hr h) (xLe_n (xLe_n (xLe_n (xLe_n (xLe_n (xLe_n xLe_0))))))
        · rw [if_neg q3] at h
          have eq0 := sw_ne (k := 0) q0 (by decide)
          have eq1 := sw_ne (k := 1) q1 (by decide)
          have eq2 := sw_ne (k := 2) q2 (by decide)
          have eq3 := sw_ne (k := 3) q3 (by decide)
          refine x_switchOut (pc := 29) (tgt := 119) C dX8_ofCoupon_29 (by omega) (by decide) ?_
          refine x_iload (pc := 119) C dX8_ofCoupon_119 rfl ?_
          refine x_if_eq (pc := 121) (tgt := 128) C dX8_ofCoupon_121 (by decide) (fun q => ?_) (fun q => ?_)
          · rw [if_pos q] at h
            refine x_iconst (v := 0) (pc := 128) C dX8_ofCoupon_128 (by decide) ?_
            exact x_sub (tX8_ofCoupon_129 C hr h) (xLe_n (xLe_n (xLe_n (xLe_n (xLe_n (xLe_n xLe_0))))))
          · rw [if_neg q] at h
            refine x_iconst (v := 1) (pc := 124) C dX8_ofCoupon_124 (by decide) ?_
            refine x_goto (tgt := 129) (pc := 125) C dX8_ofCoupon_125 (by decide) ?_
            exact x_sub (tX8_ofCoupon_129 C hr h) (xLe_n (xLe_n (xLe_n (xLe_n (xLe_n (xLe_n xLe_0))))))
def DX8_ofCoupon_25 (l0 : Nat) (l1 : Int32) (l2 : Int32) (l3 : Int32) (l4 : Int32) (σ : Sg) : Option (Int32 × Sg) :=
  DX8_ofCoupon_26 l0 l1 l2 l3 l4 (0 : Int32) σ
theorem tX8_ofCoupon_25 {r : Int32} {σ' : Sg} (C : Cx E p s m args meth c RX8 cX8_ofCoupon 6) (hr : meth.sig.returnType = (some .int)) {l0 : Nat} {l1 : Int32} {l2 : Int32} {l3 : Int32} {l4 : Int32} {σ : Sg} (h : DX8_ofCoupon_25 l0 l1 l2 l3 l4 σ = some (r, σ')) : Y E p l e (rmA 3 0 0) s m args below meth c (some (.int r)) σ' 0 0 6 0 0 σ 25 [some (.ref (ad E l0)), some (.int l1), some (.int l2), some (.int l3), some (.int l4), none] [] := by
  unfold DX8_ofCoupon_25 at h
  refine x_iconst (v := 0) (pc := 25) C dX8_ofCoupon_25 (by decide) ?_
  exact x_sub (tX8_ofCoupon_26 C hr h) (xLe_s (xLe_s (xLe_s (xLe_s (xLe_s (xLe_n xLe_0))))))
def DX8_ofCoupon (l0 : Nat) (l1 : Int32) (l2 : Int32) (l3 : Int32) (σ : Sg) : Option (Int32 × Sg) :=
  chk (ckO σ 6 l0) <|
  bnd (DX8_isFlown l0 l1 l2 σ) fun v1 σ2 =>
  if v1 = 0 then
    chk (ckO σ2 6 l0) <|
    bnd (DX8_isRefunded l0 l1 σ2) fun v3 σ4 =>
    if v3 = 0 then
      DX8_ofCoupon_26 l0 l1 l2 l3 v1 (1 : Int32) σ4
    else
      DX8_ofCoupon_25 l0 l1 l2 l3 v1 σ4
  else
    DX8_ofCoupon_25 l0 l1 l2 l3 v1 σ2
theorem mX8_ofCoupon (E : Ev) (l : Launch) {l0 : Nat} {l1 : Int32} {l2 : Int32} {l3 : Int32} {σ : Sg} {r : Int32} {σ' : Sg} (h : DX8_ofCoupon l0 l1 l2 l3 σ = some (r, σ')) : Mt E l yX8_ofCoupon cX8_ofCoupon 6 (some .int) 3 0 0 [.ref (ad E l0), .int l1, .int l2, .int l3] σ (some (.int r)) σ' := by
  refine Mt.ofX (by decide) (Nat.le_of_ble_eq_true rfl) (L0 := [some (.ref (ad E l0)), some (.int l1), some (.int l2), some (.int l3), none, none]) (xEntN_ok [.ref (ad E l0), .int l1, .int l2, .int l3] 6) (fun p e s m args below meth c C hr hn => ?_)
  unfold DX8_ofCoupon at h
  refine x_aload_n (pc := 0) C dX8_ofCoupon_0 rfl rfl ?_
  refine x_iload_n (pc := 1) C dX8_ofCoupon_1 rfl rfl ?_
  refine x_iload_n (pc := 2) C dX8_ofCoupon_2 rfl rfl ?_
  obtain ⟨k, h⟩ := chk_s h
  have k2 := k
  obtain ⟨v1, σ2, k, h⟩ := bnd_s h
  refine x_callV1 (pc := 3) C (mX8_isFlown E l k) cl6 k2 cX8_345 nX8_isFlown sX8_isFlown rfl rfl (Nat.le_of_ble_eq_true rfl) ⟨Nat.le_of_ble_eq_true rfl, Nat.le_of_ble_eq_true rfl, Nat.le_of_ble_eq_true rfl, Nat.le_of_ble_eq_true rfl⟩ dX8_ofCoupon_3 ?_
  refine x_istore (M := [some _, some _, some _, some _, some _, none]) (pc := 6) C dX8_ofCoupon_6 (by decide) rfl ?_
  refine x_iload (pc := 8) C dX8_ofCoupon_8 rfl ?_
  refine x_if_ne (pc := 10) (tgt := 25) C dX8_ofCoupon_10 (by decide) (fun q => ?_) (fun q => ?_)
  · rw [if_pos q] at h
    refine x_aload_n (pc := 13) C dX8_ofCoupon_13 rfl rfl ?_
    refine x_iload_n (pc := 14) C dX8_ofCoupon_14 rfl rfl ?_
    obtain ⟨k, h⟩ := chk_s h
    have k2 := k
    obtain ⟨v3, σ4, k, h⟩ := bnd_s h
    refine x_callV1 (pc := 15) C (mX8_isRefunded E l k) cl6 k2 cX8_404 nX8_isRefunded sX8_isRefunded rfl rfl (Nat.le_of_ble_eq_true rfl) ⟨Nat.le_of_ble_eq_true rfl, Nat.le_of_ble_eq_true rfl, Nat.le_of_ble_eq_true rfl, Nat.le_of_ble_eq_true rfl⟩ dX8_ofCoupon_15 ?_
    refine x_if_ne (pc := 18) (tgt := 25) C dX8_ofCoupon_18 (by decide) (fun q => ?_) (fun q => ?_)
    · rw [if_pos q] at h
      refine x_iconst (v := 1) (pc := 21) C dX8_ofCoupon_21 (by decide) ?_
      refine x_goto (tgt := 26) (pc := 22) C dX8_ofCoupon_22 (by decide) ?_
      exact x_sub (tX8_ofCoupon_26 C hr h) (xLe_s (xLe_s (xLe_s (xLe_s (xLe_s (xLe_n xLe_0))))))
    · rw [if_neg q] at h
      exact x_sub (tX8_ofCoupon_25 C hr h) (xLe_s (xLe_s (xLe_s (xLe_s (xLe_s (xLe_n xLe_0))))))
  · rw [if_neg q] at h
    exact x_sub (tX8_ofCoupon_25 C hr h) (xLe_s (xLe_s (xLe_s (xLe_s (xLe_s (xLe_n xLe_0))))))
def DX8_carrier_22 (σ : Sg) : Option (Int32 × Sg) :=
  some ((-1 : Int32), σ)
theorem tX8_carrier_22 {r : Int32} {σ' : Sg} (C : Cx E p s m args meth c RX8 cX8_carrier 6) (hr : meth.sig.returnType = (some .int)) {σ : Sg} (h : DX8_carrier_22  σ = some (r, σ')) : Y E p l e (rmA 7 0 0) s m args below meth c (some (.int r)) σ' 0 0 6 0 0 σ 22 [none, none, none, none, none, none] [] := by
  unfold DX8_carrier_22 at h
  refine x_iconst (v := -1) (pc := 22) C dX8_carrier_22 (by decide) ?_
  cases h
  exact x_iret C hr dX8_carrier_23
def DX8_carrier_119 (K29 : Nat → Int32 → Int32 → Int32 → Int32 → Sg → Option (Int32 × Sg)) (l0 : Nat) (l1 : Int32) (l2 : Int32) (l3 : Int32) (l4 : Int32) (σ : Sg) : Option (Int32 × Sg) :=
  K29 l0 l1 l2 l3 (l4 + (1 : Int32)) σ
theorem tX8_carrier_119 {r : Int32} {σ' : Sg} (C : Cx E p s m args meth c RX8 cX8_carrier 6) (hr : meth.sig.returnType = (some .int)) {K29 : Nat → Int32 → Int32 → Int32 → Int32 → Sg → Option (Int32 × Sg)} (hK29 : ∀ (l0 : Nat) (l1 : Int32) (l2 : Int32) (l3 : Int32) (l4 : Int32) (σ : Sg), K29 l0 l1 l2 l3 l4 σ = some (r, σ') → Y E p l e (rmA 7 0 0) s m args below meth c (some (.int r)) σ' 0 0 6 0 0 σ 29 [some (.ref (ad E l0)), some (.int l1), some (.int l2), some (.int l3), some (.int l4), none] []) {l0 : Nat} {l1 : Int32} {l2 : Int32} {l3 : Int32} {l4 : Int32} {σ : Sg} (h : DX8_carrier_119 K29 l0 l1 l2 l3 l4 σ = some (r, σ')) : Y E p l e (rmA 7 0 0) s m args below meth c (some (.int r)) σ' 0 0 6 0 0 σ 119 [some (.ref (ad E l0)), some (.int l1), some (.int l2), some (.int l3), some (.int l4), none] [] := by
  unfold DX8_carrier_119 at h
  refine x_iinc (v := 1) (M := [some _, some _, some _, some _, some _, none]) (pc := 119) C dX8_carrier_119 rfl (by decide) (by decide) rfl ?_
  refine x_goto (tgt := 29) (pc := 122) C dX8_carrier_122 (by decide) ?_
  exact x_sub (hK29 _ _ _ _ _ _ h) (xLe_s (xLe_s (xLe_s (xLe_s (xLe_s (xLe_n xLe_0))))))
def DX8_carrier_64 (K29 : Nat → Int32 → Int32 → Int32 → Int32 → Sg → Option (Int32 × Sg)) (l0 : Nat) (l1 : Int32) (l2 : Int32) (l4 : Int32) (s0 : Int32) (s1 : Int32) (σ : Sg) : Option (Int32 × Sg) :=
  DX8_carrier_119 K29 l0 l1 l2 (s0 + s1) l4 σ
theorem tX8_carrier_64 {r : Int32} {σ' : Sg} (C : Cx E p s m args meth c RX8 cX8_carrier 6) (hr : meth.sig.returnType = (some .int)) {K29 : Nat → Int32 → Int32 → Int32 → Int32 → Sg → Option (Int32 × Sg)} (hK29 : ∀ (l0 : Nat) (l1 : Int32) (l2 : Int32) (l3 : Int32) (l4 : Int32) (σ : Sg), K29 l0 l1 l2 l3 l4 σ = some (r, σ') → Y E p l e (rmA 7 0 0) s m args below meth c (some (.int r)) σ' 0 0 6 0 0 σ 29 [some (.ref (ad E l0)), some (.int l1), some (.int l2), some (.int l3), some (.int l4), none] []) {l0 : Nat} {l1 : Int32} {l2 : Int32} {l4 : Int32} {s0 : Int32} {s1 : Int32} {σ : Sg} (h : DX8_carrier_64 K29 l0 l1 l2 l4 s0 s1 σ = some (r, σ')) : Y E p l e (rmA 7 0 0) s m args below meth c (some (.int r)) σ' 0 0 6 0 0 σ 64 [some (.ref (ad E l0)), some (.int l1), some (.int l2), none, some (.int l4), none] [.int s1, .int s0] := by
  unfold DX8_carrier_64 at h
  refine x_iadd (pc := 64) C dX8_carrier_64 ?_
  refine x_istore_n (M := [some _, some _, some _, some _, some _, none]) (pc := 65) C dX8_carrier_65 rfl (by decide) rfl ?_
  refine x_goto (tgt := 119) (pc := 66) C dX8_carrier_66 (by decide) ?_
  exact x_sub (tX8_carrier_119 C hr hK29 h) (xLe_s (xLe_s (xLe_s (xLe_s (xLe_s (xLe_n xLe_0))))))
def DX8_carrier_113 (K29 : Nat → Int32 → Int32 → Int32 → Int32 → Sg → Option (Int32 × Sg)) (K78 : Nat → Int32 → Int32 → Int32 → Int32 → Int32 → Sg → Option (Int32 × Sg)) (l0 : Nat) (l1 : Int32) (l2 : Int32) (l3 : Int32) (l4 : Int32) (l5 : Int32) (σ : Sg) : Option (Int32 × Sg) :=
  K78 l0 l1 l2 l3 l4 (l5 + (1 : Int32)) σ
theorem tX8_carrier_113 {r : Int32} {σ' : Sg} (C : Cx E p s m args meth c RX8 cX8_carrier 6) (hr : meth.sig.returnType = (some .int)) {K29 : Nat → Int32 → Int32 → Int32 → Int32 → Sg → Option (Int32 × Sg)} (hK29 : ∀ (l0 : Nat) (l1 : Int32) (l2 : Int32) (l3 : Int32) (l4 : Int32) (σ : Sg), K29 l0 l1 l2 l3 l4 σ = some (r, σ') → Y E p l e (rmA 7 0 0) s m args below meth c (some (.int r)) σ' 0 0 6 0 0 σ 29 [some (.ref (ad E l0)), some (.int l1), some (.int l2), some (.int l3), some (.int l4), none] []) {K78 : Nat → Int32 → Int32 → Int32 → Int32 → Int32 → Sg → Option (Int32 × Sg)} (hK78 : ∀ (l0 : Nat) (l1 : Int32) (l2 : Int32) (l3 : Int32) (l4 : Int32) (l5 : Int32) (σ : Sg), K78 l0 l1 l2 l3 l4 l5 σ = some (r, σ') → Y E p l e (rmA 7 0 0) s m args below meth c (some (.int r)) σ' 0 0 6 0 0 σ 78 [some (.ref (ad E l0)), some (.int l1), some (.int l2), some (.int l3), some (.int l4), some (.int l5)] []) {l0 : Nat} {l1 : Int32} {l2 : Int32} {l3 : Int32} {l4 : Int32} {l5 : Int32} {σ : Sg} (h : DX8_carrier_113 K29 K78 l0 l1 l2 l3 l4 l5 σ = some (r, σ')) : Y E p l e (rmA 7 0 0) s m args below meth c (some (.int r)) σ' 0 0 6 0 0 σ 113 [some (.ref (ad E l0)), some (.int l1), some (.int l2), some (.int l3), some (.int l4), some (.int l5)] [] := by
  unfold DX8_carrier_113 at h
  refine x_iinc (v := 1) (M := [some _, some _, some _, some _, some _, some _]) (pc := 113) C dX8_carrier_113 rfl (by decide) (by decide) rfl ?_
  refine x_goto (tgt := 78) (pc := 116) C dX8_carrier_116 (by decide) ?_
  exact x_sub (hK78 _ _ _ _ _ _ _ h) (xLe_s (xLe_s (xLe_s (xLe_s (xLe_s (xLe_s xLe_0))))))
def DX8_carrier_78 (K29 : Nat → Int32 → Int32 → Int32 → Int32 → Sg → Option (Int32 × Sg)) : Nat → Nat → Int32 → Int32 → Int32 → Int32 → Int32 → Sg → Option (Int32 × Sg)
  | 0, _, _, _, _, _, _, _ => none
  | n + 1, l0, l1, l2, l3, l4, l5, σ =>
    chk (ckO σ 6 l0) <|
    bnd (DX8_couponsOf l0 l4 σ) fun v1 σ2 =>
    if v1 ≤ l5 then
      DX8_carrier_119 K29 l0 l1 l2 l3 l4 σ2
    else
      chk (ckO σ2 6 l0) <|
      bnd (DX8_carrierOf l0 l4 l5 σ2) fun v3 σ4 =>
      if v3 = l1 then
        chk (ckO σ4 6 l0) <|
        bnd (DX8_ofCoupon l0 l4 l5 l2 σ4) fun v5 σ6 =>
        DX8_carrier_113 K29 (DX8_carrier_78 K29 n) l0 l1 l2 (l3 + v5) l4 l5 σ6
      else
        DX8_carrier_113 K29 (DX8_carrier_78 K29 n) l0 l1 l2 l3 l4 l5 σ4
theorem tX8_carrier_78 {r : Int32} {σ' : Sg} (C : Cx E p s m args meth c RX8 cX8_carrier 6) (hr : meth.sig.returnType = (some .int)) {K29 : Nat → Int32 → Int32 → Int32 → Int32 → Sg → Option (Int32 × Sg)} (hK29 : ∀ (l0 : Nat) (l1 : Int32) (l2 : Int32) (l3 : Int32) (l4 : Int32) (σ : Sg), K29 l0 l1 l2 l3 l4 σ = some (r, σ') → Y E p l e (rmA 7 0 0) s m args below meth c (some (.int r)) σ' 0 0 6 0 0 σ 29 [some (.ref (ad E l0)), some (.int l1), some (.int l2), some (.int l3), some (.int l4), none] []) : ∀ (n : Nat) (l0 : Nat) (l1 : Int32) (l2 : Int32) (l3 : Int32) (l4 : Int32) (l5 : Int32) (σ : Sg) (h : DX8_carrier_78 K29 n l0 l1 l2 l3 l4 l5 σ = some (r, σ')), Y E p l e (rmA 7 0 0) s m args below meth c (some (.int r)) σ' 0 0 6 0 0 σ 78 [some (.ref (ad E l0)), some (.int l1), some (.int l2), some (.int l3), some (.int l4), some (.int l5)] [] := by
  intro n
  induction n with
  | zero => intro l0 l1 l2 l3 l4 l5 σ h; cases h
  | succ n ih =>
    intro l0 l1 l2 l3 l4 l5 σ h
    unfold DX8_carrier_78 at h
    refine x_iload (pc := 78) C dX8_carrier_78 rfl ?_
    refine x_aload_n (pc := 80) C dX8_carrier_80 rfl rfl ?_
    refine x_iload (pc := 81) C dX8_carrier_81 rfl ?_
    obtain ⟨k, h⟩ := chk_s h
    have k2 := k
    obtain ⟨v1, σ2, k, h⟩ := bnd_s h
    refine x_callV1 (pc := 83) C (mX8_couponsOf E l k) cl6 k2 cX8_301 nX8_couponsOf sX8_couponsOf rfl rfl (Nat.le_of_ble_eq_true rfl) ⟨Nat.le_of_ble_eq_true rfl, Nat.le_of_ble_eq_true rfl, Nat.le_of_ble_eq_true rfl, Nat.le_of_ble_eq_true rfl⟩ dX8_carrier_83 ?_
    refine x_icmp_ge (pc := 86) (tgt := 119) C dX8_carrier_86 (by decide) (fun q => ?_) (fun q => ?_)
    · rw [if_pos q] at h
      exact x_sub (tX8_carrier_119 C hr hK29 h) (xLe_s (xLe_s (xLe_s (xLe_s (xLe_s (xLe_n xLe_0))))))
    · rw [if_neg q] at h
      refine x_aload_n (pc := 89) C dX8_carrier_89 rfl rfl ?_
      refine x_iload (pc := 90) C dX8_carrier_90 rfl ?_
      refine x_iload (pc := 92) C dX8_carrier_92 rfl ?_
      obtain ⟨k, h⟩ := chk_s h
      have k2 := k
      obtain ⟨v3, σ4, k, h⟩ := bnd_s h
      refine x_callV1 (pc := 94) C (mX8_carrierOf E l k) cl6 k2 cX8_321 nX8_carrierOf sX8_carrierOf rfl rfl (Nat.le_of_ble_eq_true rfl) ⟨Nat.le_of_ble_eq_true rfl, Nat.le_of_ble_eq_true rfl, Nat.le_of_ble_eq_true rfl, Nat.le_of_ble_eq_true rfl⟩ dX8_carrier_94 ?_
      refine x_iload_n (pc := 97) C dX8_carrier_97 rfl rfl ?_
      refine x_icmp_ne (pc := 98) (tgt := 113) C dX8_carrier_98 (by decide) (fun q => ?_) (fun q => ?_)
      · rw [if_pos q] at h
        refine x_iload_n (pc := 101) C dX8_carrier_101 rfl rfl ?_
        refine x_aload_n (pc := 102) C dX8_carrier_102 rfl rfl ?_
        refine x_iload (pc := 103) C dX8_carrier_103 rfl ?_
        refine x_iload (pc := 105) C dX8_carrier_105 rfl ?_
        refine x_iload_n (pc := 107) C dX8_carrier_107 rfl rfl ?_
        obtain ⟨k, h⟩ := chk_s h
        have k2 := k
        obtain ⟨v5, σ6, k, h⟩ := bnd_s h
        refine x_callV1 (pc := 108) C (mX8_ofCoupon E l k) cl6 k2 cX8_435 nX8_ofCoupon sX8_ofCoupon rfl rfl (Nat.le_of_ble_eq_true rfl) ⟨Nat.le_of_ble_eq_true rfl, Nat.le_of_ble_eq_true rfl, Nat.le_of_ble_eq_true rfl, Nat.le_of_ble_eq_true rfl⟩ dX8_carrier_108 ?_
        refine x_iadd (pc := 111) C dX8_carrier_111 ?_
        refine x_istore_n (M := [some _, some _, some _, some _, some _, some _]) (pc := 112) C dX8_carrier_112 rfl (by decide) rfl ?_
        exact x_sub (tX8_carrier_113 C hr hK29 ih h) (xLe_s (xLe_s (xLe_s (xLe_s (xLe_s (xLe_s xLe_0))))))
      · rw [if_neg q] at h
        exact x_sub (tX8_carrier_113 C hr hK29 ih h) (xLe_s (xLe_s (xLe_s (xLe_s (xLe_s (xLe_s xLe_0))))))
def DX8_carrier_125 (l3 : Int32) (σ : Sg) : Option (Int32 × Sg) :=
  some (l3, σ)
theorem tX8_carrier_125 {r : Int32} {σ' : Sg} (C : Cx E p s m args meth c RX8 cX8_carrier 6) (hr : meth.sig.returnType = (some .int)) {l3 : Int32} {σ : Sg} (h : DX8_carrier_125 l3 σ = some (r, σ')) : Y E p l e (rmA 7 0 0) s m args below meth c (some (.int r)) σ' 0 0 6 0 0 σ 125 [none, none, none, some (.int l3), none, none] [] := by
  unfold DX8_carrier_125 at h
  refine x_iload_n (pc := 125) C dX8_carrier_125 rfl rfl ?_
  cases h
  exact x_iret C hr dX8_carrier_126
def DX8_carrier_29 : Nat → Nat → Int32 → Int32 → Int32 → Int32 → Sg → Option (Int32 × Sg)
  | 0, _, _, _, _, _, _ => none
  | n + 1, l0, l1, l2, l3, l4, σ =>
    chk (ckO σ 6 l0) <|
    if (gI σ l0 9) ≤ l4 then
      DX8_carrier_125 l3 σ
    else
      if l2 = (5 : Int32) then
        chk (ckO σ 6 l0) <|
        chk (ckV (gR σ l0 16)) <|
        chk (ckI σ (gR σ l0 16) (((4 : Int32) * l4) + (3 : Int32))) <|
        if (aI σ (gR σ l0 16) (((4 : Int32) * l4) + (3 : Int32)).toNatClampNeg) = l1 then
          DX8_carrier_64 (DX8_carrier_29 n) l0 l1 l2 l4 l3 (1 : Int32) σ
        else
          DX8_carrier_64 (DX8_carrier_29 n) l0 l1 l2 l4 l3 (0 : Int32) σ
      else
        chk (ckO σ 6 l0) <|
        bnd (DX8_prorates_ l0 l4 σ) fun _ σ1 =>
        DX8_carrier_78 (DX8_carrier_29 n) FU l0 l1 l2 l3 l4 (0 : Int32) σ1
theorem tX8_carrier_29 {r : Int32} {σ' : Sg} (C : Cx E p s m args meth c RX8 cX8_carrier 6) (hr : meth.sig.returnType = (some .int)) : ∀ (n : Nat) (l0 : Nat) (l1 : Int32) (l2 : Int32) (l3 : Int32) (l4 : Int32) (σ : Sg) (h : DX8_carrier_29 n l0 l1 l2 l3 l4 σ = some (r, σ')), Y E p l e (rmA 7 0 0) s m args below meth c (some (.int r)) σ' 0 0 6 0 0 σ 29 [some (.ref (ad E l0)), some (.int l1), some (.int l2), some (.int l3), some (.int l4), none] [] := by
  intro n
  induction n with
  | zero => intro l0 l1 l2 l3 l4 σ h; cases h
  | succ n ih =>
    intro l0 l1 l2 l3 l4 σ h
    unfold DX8_carrier_29 at h
    refine x_iload (pc := 29) C dX8_carrier_29 rfl ?_
    refine x_aload_n (pc := 31) C dX8_carrier_31 rfl rfl ?_
    obtain ⟨k, h⟩ := chk_s h
    refine x_getI (pc := 32) C fX8_192 rfl k dX8_carrier_32 ?_
    refine x_icmp_ge (pc := 35) (tgt := 125) C dX8_carrier_35 (by decide) (fun q => ?_) (fun q => ?_)
    · rw [if_pos q] at h
      exact x_sub (tX8_carrier_125 C hr h) (xLe_n (xLe_n (xLe_n (xLe_s (xLe_n (xLe_n xLe_0))))))
    · rw [if_neg q] at h
      refine x_iload_n (pc := 38) C dX8_carrier_38 rfl rfl ?_
      refine x_iconst (v := 5) (pc := 39) C dX8_carrier_39 (by decide) ?_
      refine x_icmp_ne (pc := 40) (tgt := 69) C dX8_carrier_40 (by decide) (fun q => ?_) (fun q => ?_)
      · rw [if_pos q] at h
        refine x_iload_n (pc := 43) C dX8_carrier_43 rfl rfl ?_
        refine x_aload_n (pc := 44) C dX8_carrier_44 rfl rfl ?_
        obtain ⟨k, h⟩ := chk_s h
        have k2 := k
        obtain ⟨k, h⟩ := chk_s h
        refine x_getR (pc := 45) C fX8_25 rfl k2 k dX8_carrier_45 ?_
        refine x_iconst (v := 4) (pc := 48) C dX8_carrier_48 (by decide) ?_
        refine x_iload (pc := 49) C dX8_carrier_49 rfl ?_
        refine x_imul (pc := 51) C dX8_carrier_51 ?_
        refine x_iconst (v := 3) (pc := 52) C dX8_carrier_52 (by decide) ?_
        refine x_iadd (pc := 53) C dX8_carrier_53 ?_
        obtain ⟨k, h⟩ := chk_s h
        refine x_iald (pc := 54) C k dX8_carrier_54 ?_
        refine x_iload_n (pc := 55) C dX8_carrier_55 rfl rfl ?_
        refine x_icmp_ne (pc := 56) (tgt := 63) C dX8_carrier_56 (by decide) (fun q => ?_) (fun q => ?_)
        · rw [if_pos q] at h
          refine x_iconst (v := 1) (pc := 59) C dX8_carrier_59 (by decide) ?_
          refine x_goto (tgt := 64) (pc := 60) C dX8_carrier_60 (by decide) ?_
          exact x_sub (tX8_carrier_64 C hr ih h) (xLe_s (xLe_s (xLe_s (xLe_n (xLe_s (xLe_n xLe_0))))))
        · rw [if_neg q] at h
          refine x_iconst (v := 0) (pc := 63) C dX8_carrier_63 (by decide) ?_
          exact x_sub (tX8_carrier_64 C hr ih h) (xLe_s (xLe_s (xLe_s (xLe_n (xLe_s (xLe_n xLe_0))))))
      · rw [if_neg q] at h
        refine x_aload_n (pc := 69) C dX8_carrier_69 rfl rfl ?_
        refine x_iload (pc := 70) C dX8_carrier_70 rfl ?_
        obtain ⟨k, h⟩ := chk_s h
        have k2 := k
        obtain ⟨u0, σ1, k, h⟩ := bnd_s h
        refine x_callV0 (pc := 72) C (mX8_prorates_ E l k) cl6 k2 cX8_396 nX8_prorates_ sX8_prorates_ rfl rfl (Nat.le_of_ble_eq_true rfl) ⟨Nat.le_of_ble_eq_true rfl, Nat.le_of_ble_eq_true rfl, Nat.le_of_ble_eq_true rfl, Nat.le_of_ble_eq_true rfl⟩ dX8_carrier_72 ?_
        refine x_iconst (v := 0) (pc := 75) C dX8_carrier_75 (by decide) ?_
        refine x_istore (M := [some _, some _, some _, some _, some _, some _]) (pc := 76) C dX8_carrier_76 (by decide) rfl ?_
        exact x_sub (tX8_carrier_78 C hr ih FU _ _ _ _ _ _ _ h) (xLe_s (xLe_s (xLe_s (xLe_s (xLe_s (xLe_s xLe_0))))))
def DX8_carrier (l0 : Nat) (l1 : Int32) (l2 : Int32) (σ : Sg) : Option (Int32 × Sg) :=
  chk (ckO σ 6 l0) <|
  wlet (pI σ l0 0 (0 : Int32)) fun σ1 =>
  chk (ckO σ1 6 l0) <|
  bnd (DX8_isCarrier l0 l1 σ1) fun v2 σ3 =>
  if v2 = 0 then
    DX8_carrier_22 σ3
  else
    if l2 < 0 then
      DX8_carrier_22 σ3
    else
      if l2 ≤ (5 : Int32) then
        DX8_carrier_29 FU l0 l1 l2 (0 : Int32) (0 : Int32) σ3
      else
        DX8_carrier_22 σ3
theorem mX8_carrier (E : Ev) (l : Launch) {l0 : Nat} {l1 : Int32} {l2 : Int32} {σ : Sg} {r : Int32} {σ' : Sg} (h : DX8_carrier l0 l1 l2 σ = some (r, σ')) : Mt E l yX8_carrier cX8_carrier 6 (some .int) 7 0 0 [.ref (ad E l0), .int l1, .int l2] σ (some (.int r)) σ' := by
  refine Mt.ofX (by decide) (Nat.le_of_ble_eq_true rfl) (L0 := [some (.ref (ad E l0)), some (.int l1), some (.int l2), none, none, none]) (xEntN_ok [.ref (ad E l0), .int l1, .int l2] 6) (fun p e s m args below meth c C hr hn => ?_)
  unfold DX8_carrier at h
  refine x_aload_n (pc := 0) C dX8_carrier_0 rfl rfl ?_
  refine x_iconst (v := 0) (pc := 1) C dX8_carrier_1 (by decide) ?_
  obtain ⟨k, h⟩ := chk_s h
  obtain ⟨σ1, e1, h⟩ := wlet_s h
  refine x_putI (pc := 2) C pX8_112 rfl k dX8_carrier_2 (x_eq e1 ?_)
  refine x_aload_n (pc := 5) C dX8_carrier_5 rfl rfl ?_
  refine x_iload_n (pc := 6) C dX8_carrier_6 rfl rfl ?_
  obtain ⟨k, h⟩ := chk_s h
  have k2 := k
  obtain ⟨v2, σ3, k, h⟩ := bnd_s h
  refine x_callV1 (pc := 7) C (mX8_isCarrier E l k) cl6 k2 cX8_315 nX8_isCarrier sX8_isCarrier rfl rfl (Nat.le_of_ble_eq_true rfl) ⟨Nat.le_of_ble_eq_true rfl, Nat.le_of_ble_eq_true rfl, Nat.le_of_ble_eq_true rfl, Nat.le_of_ble_eq_true rfl⟩ dX8_carrier_7 ?_
  refine x_if_eq (pc := 10) (tgt := 22) C dX8_carrier_10 (by decide) (fun q => ?_) (fun q => ?_)
  · rw [if_pos q] at h
    exact x_sub (tX8_carrier_22 C hr h) (xLe_n (xLe_n (xLe_n (xLe_n (xLe_n (xLe_n xLe_0))))))
  · rw [if_neg q] at h
    refine x_iload_n (pc := 13) C dX8_carrier_13 rfl rfl ?_
    refine x_if_lt (pc := 14) (tgt := 22) C dX8_carrier_14 (by decide) (fun q => ?_) (fun q => ?_)
    · rw [if_pos q] at h
      exact x_sub (tX8_carrier_22 C hr h) (xLe_n (xLe_n (xLe_n (xLe_n (xLe_n (xLe_n xLe_0))))))
    · rw [if_neg q] at h
      refine x_iload_n (pc := 17) C dX8_carrier_17 rfl rfl ?_
      refine x_iconst (v := 5) (pc := 18) C dX8_carrier_18 (by decide) ?_
      refine x_icmp_le (pc := 19) (tgt := 24) C dX8_carrier_19 (by decide) (fun q => ?_) (fun q => ?_)
      · rw [if_pos q] at h
        refine x_iconst (v := 0) (pc := 24) C dX8_carrier_24 (by decide) ?_
        refine x_istore_n (M := [some _, some _, some _, some _, none, none]) (pc := 25) C dX8_carrier_25 rfl (by decide) rfl ?_
        refine x_iconst (v := 0) (pc := 26) C dX8_carrier_26 (by decide) ?_
        refine x_istore (M := [some _, some _, some _, some _, some _, none]) (pc := 27) C dX8_carrier_27 (by decide) rfl ?_
        exact x_sub (tX8_carrier_29 C hr FU _ _ _ _ _ _ h) (xLe_s (xLe_s (xLe_s (xLe_s (xLe_s (xLe_n xLe_0))))))
      · rw [if_neg q] at h
        exact x_sub (tX8_carrier_22 C hr h) (xLe_n (xLe_n (xLe_n (xLe_n (xLe_n (xLe_n xLe_0))))))
def DX8_perMile_39 (s0 : Int32) (σ : Sg) : Option (Int32 × Sg) :=
  some (s0, σ)
theorem tX8_perMile_39 {r : Int32} {σ' : Sg} (C : Cx E p s m args meth c RX8 cX8_perMile 3) (hr : meth.sig.returnType = (some .int)) {s0 : Int32} {σ : Sg} (h : DX8_perMile_39 s0 σ = some (r, σ')) : Y E p l e (rmA 8 0 0) s m args below meth c (some (.int r)) σ' 0 0 3 0 0 σ 39 [none, none, none] [.int s0] := by
  unfold DX8_perMile_39 at h
  cases h
  exact x_iret C hr dX8_perMile_39
def DX8_perMile (l0 : Nat) (l1 : Int32) (σ : Sg) : Option (Int32 × Sg) :=
  chk (ckO σ 6 l0) <|
  wlet (pI σ l0 0 (0 : Int32)) fun σ1 =>
  chk (ckO σ1 6 l0) <|
  bnd (DX8_isCarrier l0 l1 σ1) fun v2 σ3 =>
  if v2 = 0 then
    some ((-1 : Int32), σ3)
  else
    chk (ckO σ3 6 l0) <|
    bnd (DX8_carrier l0 l1 (2 : Int32) σ3) fun v4 σ5 =>
    if v4 = 0 then
      DX8_perMile_39 (-2 : Int32) σ5
    else
      chk (ckO σ5 6 l0) <|
      bnd (DX8_carrier l0 l1 (0 : Int32) σ5) fun v6 σ7 =>
      chk (ckN v4) <|
      DX8_perMile_39 (v6 / v4) σ7
theorem mX8_perMile (E : Ev) (l : Launch) {l0 : Nat} {l1 : Int32} {σ : Sg} {r : Int32} {σ' : Sg} (h : DX8_perMile l0 l1 σ = some (r, σ')) : Mt E l yX8_perMile cX8_perMile 3 (some .int) 8 0 0 [.ref (ad E l0), .int l1] σ (some (.int r)) σ' := by
  refine Mt.ofX (by decide) (Nat.le_of_ble_eq_true rfl) (L0 := [some (.ref (ad E l0)), some (.int l1), none]) (xEntN_ok [.ref (ad E l0), .int l1] 3) (fun p e s m args below meth c C hr hn => ?_)
  unfold DX8_perMile at h
  refine x_aload_n (pc := 0) C dX8_perMile_0 rfl rfl ?_
  refine x_iconst (v := 0) (pc := 1) C dX8_perMile_1 (by decide) ?_
  obtain ⟨k, h⟩ := chk_s h
  obtain ⟨σ1, e1, h⟩ := wlet_s h
  refine x_putI (pc := 2) C pX8_112 rfl k dX8_perMile_2 (x_eq e1 ?_)
  refine x_aload_n (pc := 5) C dX8_perMile_5 rfl rfl ?_
  refine x_iload_n (pc := 6) C dX8_perMile_6 rfl rfl ?_
  obtain ⟨k, h⟩ := chk_s h
  have k2 := k
  obtain ⟨v2, σ3, k, h⟩ := bnd_s h
  refine x_callV1 (pc := 7) C (mX8_isCarrier E l k) cl6 k2 cX8_315 nX8_isCarrier sX8_isCarrier rfl rfl (Nat.le_of_ble_eq_true rfl) ⟨Nat.le_of_ble_eq_true rfl, Nat.le_of_ble_eq_true rfl, Nat.le_of_ble_eq_true rfl, Nat.le_of_ble_eq_true rfl⟩ dX8_perMile_7 ?_
  refine x_if_ne (pc := 10) (tgt := 15) C dX8_perMile_10 (by decide) (fun q => ?_) (fun q => ?_)
  · rw [if_pos q] at h
    refine x_iconst (v := -1) (pc := 13) C dX8_perMile_13 (by decide) ?_
    cases h
    exact x_iret C hr dX8_perMile_14
  · rw [if_neg q] at h
    refine x_aload_n (pc := 15) C dX8_perMile_15 rfl rfl ?_
    refine x_iload_n (pc := 16) C dX8_perMile_16 rfl rfl ?_
    refine x_iconst (v := 2) (pc := 17) C dX8_perMile_17 (by decide) ?_
    obtain ⟨k, h⟩ := chk_s h
    have k2 := k
    obtain ⟨v4, σ5, k, h⟩ := bnd_s h
    refine x_callV1 (pc := 18) C (mX8_carrier E l k) cl6 k2 cX8_438 nX8_carrier sX8_carrier rfl rfl (Nat.le_of_ble_eq_true rfl) ⟨Nat.le_of_ble_eq_true rfl, Nat.le_of_ble_eq_true rfl, Nat.le_of_ble_eq_true rfl, Nat.le_of_ble_eq_true rfl⟩ dX8_perMile_18 ?_
    refine x_istore_n (M := [some _, some _, some _]) (pc := 21) C dX8_perMile_21 rfl (by decide) rfl ?_
    refine x_iload_n (pc := 22) C dX8_perMile_22 rfl rfl ?_
    refine x_if_ne (pc := 23) (tgt := 31) C dX8_perMile_23 (by decide) (fun q => ?_) (fun q => ?_)
    · rw [if_pos q] at h
      refine x_bipush (v := -2) (pc := 26) C dX8_perMile_26 (by decide) ?_
      refine x_goto (tgt := 39) (pc := 28) C dX8_perMile_28 (by decide) ?_
      exact x_sub (tX8_perMile_39 C hr h) (xLe_n (xLe_n (xLe_n xLe_0)))
    · rw [if_neg q] at h
      refine x_aload_n (pc := 31) C dX8_perMile_31 rfl rfl ?_
      refine x_iload_n (pc := 32) C dX8_perMile_32 rfl rfl ?_
      refine x_iconst (v := 0) (pc := 33) C dX8_perMile_33 (by decide) ?_
      obtain ⟨k, h⟩ := chk_s h
      have k2 := k
      obtain ⟨v6, σ7, k, h⟩ := bnd_s h
      refine x_callV1 (pc := 34) C (mX8_carrier E l k) cl6 k2 cX8_438 nX8_carrier sX8_carrier rfl rfl (Nat.le_of_ble_eq_true rfl) ⟨Nat.le_of_ble_eq_true rfl, Nat.le_of_ble_eq_true rfl, Nat.le_of_ble_eq_true rfl, Nat.le_of_ble_eq_true rfl⟩ dX8_perMile_34 ?_
      refine x_iload_n (pc := 37) C dX8_perMile_37 rfl rfl ?_
      obtain ⟨k, h⟩ := chk_s h
      refine x_idiv (pc := 38) C dX8_perMile_38 (ckN_s k) ?_
      exact x_sub (tX8_perMile_39 C hr h) (xLe_n (xLe_n (xLe_n xLe_0)))
def DX8_ranked_79 (K13 : Nat → Int32 → Int32 → Sg → Option (Int32 × Sg)) (K26 : Nat → Int32 → Int32 → Int32 → Int32 → Sg → Option (Int32 × Sg)) (l0 : Nat) (l1 : Int32) (l2 : Int32) (l4 : Int32) (s0 : Int32) (s1 : Int32) (σ : Sg) : Option (Int32 × Sg) :=
  K26 l0 l1 l2 (s0 + s1) (l4 + (1 : Int32)) σ
theorem tX8_ranked_79 {r : Int32} {σ' : Sg} (C : Cx E p s m args meth c RX8 cX8_ranked 7) (hr : meth.sig.returnType = (some .int)) {K13 : Nat → Int32 → Int32 → Sg → Option (Int32 × Sg)} (hK13 : ∀ (l0 : Nat) (l1 : Int32) (l2 : Int32) (σ : Sg), K13 l0 l1 l2 σ = some (r, σ') → Y E p l e (rmA 7 0 0) s m args below meth c (some (.int r)) σ' 0 0 7 0 0 σ 13 [some (.ref (ad E l0)), some (.int l1), some (.int l2), none, none, none, none] []) {K26 : Nat → Int32 → Int32 → Int32 → Int32 → Sg → Option (Int32 × Sg)} (hK26 : ∀ (l0 : Nat) (l1 : Int32) (l2 : Int32) (l3 : Int32) (l4 : Int32) (σ : Sg), K26 l0 l1 l2 l3 l4 σ = some (r, σ') → Y E p l e (rmA 7 0 0) s m args below meth c (some (.int r)) σ' 0 0 7 0 0 σ 26 [some (.ref (ad E l0)), some (.int l1), some (.int l2), some (.int l3), some (.int l4), none, none] []) {l0 : Nat} {l1 : Int32} {l2 : Int32} {l4 : Int32} {s0 : Int32} {s1 : Int32} {σ : Sg} (h : DX8_ranked_79 K13 K26 l0 l1 l2 l4 s0 s1 σ = some (r, σ')) : Y E p l e (rmA 7 0 0) s m args below meth c (some (.int r)) σ' 0 0 7 0 0 σ 79 [some (.ref (ad E l0)), some (.int l1), some (.int l2), none, some (.int l4), none, none] [.int s1, .int s0] := by
  unfold DX8_ranked_79 at h
  refine x_iadd (pc := 79) C dX8_ranked_79 ?_
  refine x_istore_n (M := [some _, some _, some _, some _, some _, none, none]) (pc := 80) C dX8_ranked_80 rfl (by decide) rfl ?_
  refine x_iinc (v := 1) (M := [some _, some _, some _, some _, some _, none, none]) (pc := 81) C dX8_ranked_81 rfl (by decide) (by decide) rfl ?_
  refine x_goto (tgt := 26) (pc := 84) C dX8_ranked_84 (by decide) ?_
  exact x_sub (hK26 _ _ _ _ _ _ h) (xLe_s (xLe_s (xLe_s (xLe_s (xLe_s (xLe_n (xLe_n xLe_0)))))))
def DX8_ranked_74 (K13 : Nat → Int32 → Int32 → Sg → Option (Int32 × Sg)) (K26 : Nat → Int32 → Int32 → Int32 → Int32 → Sg → Option (Int32 × Sg)) (l0 : Nat) (l1 : Int32) (l2 : Int32) (l4 : Int32) (s0 : Int32) (σ : Sg) : Option (Int32 × Sg) :=
  DX8_ranked_79 K13 K26 l0 l1 l2 l4 s0 (1 : Int32) σ
theorem tX8_ranked_74 {r : Int32} {σ' : Sg} (C : Cx E p s m args meth c RX8 cX8_ranked 7) (hr : meth.sig.returnType = (some .int)) {K13 : Nat → Int32 → Int32 → Sg → Option (Int32 × Sg)} (hK13 : ∀ (l0 : Nat) (l1 : Int32) (l2 : Int32) (σ : Sg), K13 l0 l1 l2 σ = some (r, σ') → Y E p l e (rmA 7 0 0) s m args below meth c (some (.int r)) σ' 0 0 7 0 0 σ 13 [some (.ref (ad E l0)), some (.int l1), some (.int l2), none, none, none, none] []) {K26 : Nat → Int32 → Int32 → Int32 → Int32 → Sg → Option (Int32 × Sg)} (hK26 : ∀ (l0 : Nat) (l1 : Int32) (l2 : Int32) (l3 : Int32) (l4 : Int32) (σ : Sg), K26 l0 l1 l2 l3 l4 σ = some (r, σ') → Y E p l e (rmA 7 0 0) s m args below meth c (some (.int r)) σ' 0 0 7 0 0 σ 26 [some (.ref (ad E l0)), some (.int l1), some (.int l2), some (.int l3), some (.int l4), none, none] []) {l0 : Nat} {l1 : Int32} {l2 : Int32} {l4 : Int32} {s0 : Int32} {σ : Sg} (h : DX8_ranked_74 K13 K26 l0 l1 l2 l4 s0 σ = some (r, σ')) : Y E p l e (rmA 7 0 0) s m args below meth c (some (.int r)) σ' 0 0 7 0 0 σ 74 [some (.ref (ad E l0)), some (.int l1), some (.int l2), none, some (.int l4), none, none] [.int s0] := by
  unfold DX8_ranked_74 at h
  refine x_iconst (v := 1) (pc := 74) C dX8_ranked_74 (by decide) ?_
  refine x_goto (tgt := 79) (pc := 75) C dX8_ranked_75 (by decide) ?_
  exact x_sub (tX8_ranked_79 C hr hK13 hK26 h) (xLe_s (xLe_s (xLe_s (xLe_n (xLe_s (xLe_n (xLe_n xLe_0)))))))
def DX8_ranked_78 (K13 : Nat → Int32 → Int32 → Sg → Option (Int32 × Sg)) (K26 : Nat → Int32 → Int32 → Int32 → Int32 → Sg → Option (Int32 × Sg)) (l0 : Nat) (l1 : Int32) (l2 : Int32) (l4 : Int32) (s0 : Int32) (σ : Sg) : Option (Int32 × Sg) :=
  DX8_ranked_79 K13 K26 l0 l1 l2 l4 s0 (0 : Int32) σ
theorem tX8_ranked_78 {r : Int32} {σ' : Sg} (C : Cx E p s m args meth c RX8 cX8_ranked 7) (hr : meth.sig.returnType = (some .int)) {K13 : Nat → Int32 → Int32 → Sg → Option (Int32 × Sg)} (hK13 : ∀ (l0 : Nat) (l1 : Int32) (l2 : Int32) (σ : Sg), K13 l0 l1 l2 σ = some (r, σ') → Y E p l e (rmA 7 0 0) s m args below meth c (some (.int r)) σ' 0 0 7 0 0 σ 13 [some (.ref (ad E l0)), some (.int l1), some (.int l2), none, none, none, none] []) {K26 : Nat → Int32 → Int32 → Int32 → Int32 → Sg → Option (Int32 × Sg)} (hK26 : ∀ (l0 : Nat) (l1 : Int32) (l2 : Int32) (l3 : Int32) (l4 : Int32) (σ : Sg), K26 l0 l1 l2 l3 l4 σ = some (r, σ') → Y E p l e (rmA 7 0 0) s m args below meth c (some (.int r)) σ' 0 0 7 0 0 σ 26 [some (.ref (ad E l0)), some (.int l1), some (.int l2), some (.int l3), some (.int l4), none, none] []) {l0 : Nat} {l1 : Int32} {l2 : Int32} {l4 : Int32} {s0 : Int32} {σ : Sg} (h : DX8_ranked_78 K13 K26 l0 l1 l2 l4 s0 σ = some (r, σ')) : Y E p l e (rmA 7 0 0) s m args below meth c (some (.int r)) σ' 0 0 7 0 0 σ 78 [some (.ref (ad E l0)), some (.int l1), some (.int l2), none, some (.int l4), none, none] [.int s0] := by
  unfold DX8_ranked_78 at h
  refine x_iconst (v := 0) (pc := 78) C dX8_ranked_78 (by decide) ?_
  exact x_sub (tX8_ranked_79 C hr hK13 hK26 h) (xLe_s (xLe_s (xLe_s (xLe_n (xLe_s (xLe_n (xLe_n xLe_0)))))))
def DX8_ranked_92 (l2 : Int32) (σ : Sg) : Option (Int32 × Sg) :=
  some (l2, σ)
theorem tX8_ranked_92 {r : Int32} {σ' : Sg} (C : Cx E p s m args meth c RX8 cX8_ranked 7) (hr : meth.sig.returnType = (some .int)) {l2 : Int32} {σ : Sg} (h : DX8_ranked_92 l2 σ = some (r, σ')) : Y E p l e (rmA 7 0 0) s m args below meth c (some (.int r)) σ' 0 0 7 0 0 σ 92 [none, none, some (.int l2), none, none, none, none] [] := by
  unfold DX8_ranked_92 at h
  refine x_iload_n (pc := 92) C dX8_ranked_92 rfl rfl ?_
  cases h
  exact x_iret C hr dX8_ranked_93
def DX8_ranked_87 (K13 : Nat → Int32 → Int32 → Sg → Option (Int32 × Sg)) (l0 : Nat) (l1 : Int32) (l2 : Int32) (l3 : Int32) (σ : Sg) : Option (Int32 × Sg) :=
  if l3 = l1 then
    DX8_ranked_92 l2 σ
  else
    K13 l0 l1 (l2 + (1 : Int32)) σ
theorem tX8_ranked_87 {r : Int32} {σ' : Sg} (C : Cx E p s m args meth c RX8 cX8_ranked 7) (hr : meth.sig.returnType = (some .int)) {K13 : Nat → Int32 → Int32 → Sg → Option (Int32 × Sg)} (hK13 : ∀ (l0 : Nat) (l1 : Int32) (l2 : Int32) (σ : Sg), K13 l0 l1 l2 σ = some (r, σ') → Y E p l e (rmA 7 0 0) s m args below meth c (some (.int r)) σ' 0 0 7 0 0 σ 13 [some (.ref (ad E l0)), some (.int l1), some (.int l2), none, none, none, none] []) {l0 : Nat} {l1 : Int32} {l2 : Int32} {l3 : Int32} {σ : Sg} (h : DX8_ranked_87 K13 l0 l1 l2 l3 σ = some (r, σ')) : Y E p l e (rmA 7 0 0) s m args below meth c (some (.int r)) σ' 0 0 7 0 0 σ 87 [some (.ref (ad E l0)), some (.int l1), some (.int l2), some (.int l3), none, none, none] [] := by
  unfold DX8_ranked_87 at h
  refine x_iload_n (pc := 87) C dX8_ranked_87 rfl rfl ?_
  refine x_iload_n (pc := 88) C dX8_ranked_88 rfl rfl ?_
  refine x_icmp_ne (pc := 89) (tgt := 94) C dX8_ranked_89 (by decide) (fun q => ?_) (fun q => ?_)
  · rw [if_pos q] at h
    exact x_sub (tX8_ranked_92 C hr h) (xLe_n (xLe_n (xLe_s (xLe_n (xLe_n (xLe_n (xLe_n xLe_0)))))))
  · rw [if_neg q] at h
    refine x_iinc (v := 1) (M := [some _, some _, some _, some _, none, none, none]) (pc := 94) C dX8_ranked_94 rfl (by decide) (by decide) rfl ?_
    refine x_goto (tgt := 13) (pc := 97) C dX8_ranked_97 (by decide) ?_
    exact x_sub (hK13 _ _ _ _ h) (xLe_s (xLe_s (xLe_s (xLe_n (xLe_n (xLe_n (xLe_n xLe_0)))))))
def DX8_ranked_26 (K13 : Nat → Int32 → Int32 → Sg → Option (Int32 × Sg)) : Nat → Nat → Int32 → Int32 → Int32 → Int32 → Sg → Option (Int32 × Sg)
  | 0, _, _, _, _, _, _ => none
  | n + 1, l0, l1, l2, l3, l4, σ =>
    chk (ckO σ 6 l0) <|
    if (gI σ l0 4) ≤ l4 then
      DX8_ranked_87 K13 l0 l1 l2 l3 σ
    else
      chk (ckO σ 6 l0) <|
      bnd (DX8_earned l0 l4 (-2 : Int32) σ) fun v1 σ2 =>
      chk (ckO σ2 6 l0) <|
      bnd (DX8_earned l0 l2 (-2 : Int32) σ2) fun v3 σ4 =>
      if (0 : Int64) < (v1 - v3) then
        DX8_ranked_74 K13 (DX8_ranked_26 K13 n) l0 l1 l2 l4 l3 σ4
      else
        if (v1 - v3) = (0 : Int64) then
          if l2 ≤ l4 then
            DX8_ranked_78 K13 (DX8_ranked_26 K13 n) l0 l1 l2 l4 l3 σ4
          else
            DX8_ranked_74 K13 (DX8_ranked_26 K13 n) l0 l1 l2 l4 l3 σ4
        else
          DX8_ranked_78 K13 (DX8_ranked_26 K13 n) l0 l1 l2 l4 l3 σ4
theorem tX8_ranked_26 {r : Int32} {σ' : Sg} (C : Cx E p s m args meth c RX8 cX8_ranked 7) (hr : meth.sig.returnType = (some .int)) {K13 : Nat → Int32 → Int32 → Sg → Option (Int32 × Sg)} (hK13 : ∀ (l0 : Nat) (l1 : Int32) (l2 : Int32) (σ : Sg), K13 l0 l1 l2 σ = some (r, σ') → Y E p l e (rmA 7 0 0) s m args below meth c (some (.int r)) σ' 0 0 7 0 0 σ 13 [some (.ref (ad E l0)), some (.int l1), some (.int l2), none, none, none, none] []) : ∀ (n : Nat) (l0 : Nat) (l1 : Int32) (l2 : Int32) (l3 : Int32) (l4 : Int32) (σ : Sg) (h : DX8_ranked_26 K13 n l0 l1 l2 l3 l4 σ = some (r, σ')), Y E p l e (rmA 7 0 0) s m args below meth c (some (.int r)) σ' 0 0 7 0 0 σ 26 [some (.ref (ad E l0)), some (.int l1), some (.int l2), some (.int l3), some (.int l4), none, none] [] := by
  intro n
  induction n with
  | zero => intro l0 l1 l2 l3 l4 σ h; cases h
  | succ n ih =>
    intro l0 l1 l2 l3 l4 σ h
    unfold DX8_ranked_26 at h
    refine x_iload (pc := 26) C dX8_ranked_26 rfl ?_
    refine x_aload_n (pc := 28) C dX8_ranked_28 rfl rfl ?_
    obtain ⟨k, h⟩ := chk_s h
    refine x_getI (pc := 29) C fX8_189 rfl k dX8_ranked_29 ?_
    refine x_icmp_ge (pc := 32) (tgt := 87) C dX8_ranked_32 (by decide) (fun q => ?_) (fun q => ?_)
    · rw [if_pos q] at h
      exact x_sub (tX8_ranked_87 C hr hK13 h) (xLe_s (xLe_s (xLe_s (xLe_s (xLe_n (xLe_n (xLe_n xLe_0)))))))
    · rw [if_neg q] at h
      refine x_aload_n (pc := 35) C dX8_ranked_35 rfl rfl ?_
      refine x_iload (pc := 36) C dX8_ranked_36 rfl ?_
      refine x_bipush (v := -2) (pc := 38) C dX8_ranked_38 (by decide) ?_
      obtain ⟨k, h⟩ := chk_s h
      have k2 := k
      obtain ⟨v1, σ2, k, h⟩ := bnd_s h
      refine x_callV1 (pc := 40) C (mX8_earned E l k) cl6 k2 cX8_400 nX8_earned sX8_earned rfl rfl (Nat.le_of_ble_eq_true rfl) ⟨Nat.le_of_ble_eq_true rfl, Nat.le_of_ble_eq_true rfl, Nat.le_of_ble_eq_true rfl, Nat.le_of_ble_eq_true rfl⟩ dX8_ranked_40 ?_
      refine x_aload_n (pc := 43) C dX8_ranked_43 rfl rfl ?_
      refine x_iload_n (pc := 44) C dX8_ranked_44 rfl rfl ?_
      refine x_bipush (v := -2) (pc := 45) C dX8_ranked_45 (by decide) ?_
      obtain ⟨k, h⟩ := chk_s h
      have k2 := k
      obtain ⟨v3, σ4, k, h⟩ := bnd_s h
      refine x_callV1 (pc := 47) C (mX8_earned E l k) cl6 k2 cX8_400 nX8_earned sX8_earned rfl rfl (Nat.le_of_ble_eq_true rfl) ⟨Nat.le_of_ble_eq_true rfl, Nat.le_of_ble_eq_true rfl, Nat.le_of_ble_eq_true rfl, Nat.le_of_ble_eq_true rfl⟩ dX8_ranked_47 ?_
      refine x_lsub (pc := 50) C dX8_ranked_50 ?_
      refine x_lstore (M := [some _, some _, some _, some _, some _, some _, none]) (pc := 51) C dX8_ranked_51 (by decide) rfl ?_
      refine x_iload_n (pc := 53) C dX8_ranked_53 rfl rfl ?_
      refine x_lload (pc := 54) C dX8_ranked_54 rfl ?_
      refine x_lconst (v := 0) (pc := 56) C dX8_ranked_56 (by decide) ?_
      refine x_lcmp (pc := 57) C dX8_ranked_57 ?_
      refine x_lif_gt (pc := 58) (tgt := 74) C dX8_ranked_58 (by decide) (fun q => ?_) (fun q => ?_)
      · rw [if_pos q] at h
        exact x_sub (tX8_ranked_74 C hr hK13 ih h) (xLe_s (xLe_s (xLe_s (xLe_n (xLe_s (xLe_n (xLe_n xLe_0)))))))
      · rw [if_neg q] at h
        refine x_lload (pc := 61) C dX8_ranked_61 rfl ?_
        refine x_lconst (v := 0) (pc := 63) C dX8_ranked_63 (by decide) ?_
        refine x_lcmp (pc := 64) C dX8_ranked_64 ?_
        refine x_lif_ne (pc := 65) (tgt := 78) C dX8_ranked_65 (by decide) (fun q => ?_) (fun q => ?_)
        · rw [if_pos q] at h
          refine x_iload (pc := 68) C dX8_ranked_68 rfl ?_
          refine x_iload_n (pc := 70) C dX8_ranked_70 rfl rfl ?_
          refine x_icmp_ge (pc := 71) (tgt := 78) C dX8_ranked_71 (by decide) (fun q => ?_) (fun q => ?_)
          · rw [if_pos q] at h
            exact x_sub (tX8_ranked_78 C hr hK13 ih h) (xLe_s (xLe_s (xLe_s (xLe_n (xLe_s (xLe_n (xLe_n xLe_0)))))))
          · rw [if_neg q] at h
            exact x_sub (tX8_ranked_74 C hr hK13 ih h) (xLe_s (xLe_s (xLe_s (xLe_n (xLe_s (xLe_n (xLe_n xLe_0)))))))
        · rw [if_neg q] at h
          exact x_sub (tX8_ranked_78 C hr hK13 ih h) (xLe_s (xLe_s (xLe_s (xLe_n (xLe_s (xLe_n (xLe_n xLe_0)))))))
def DX8_ranked_100 (σ : Sg) : Option (Int32 × Sg) :=
  some ((-2 : Int32), σ)
theorem tX8_ranked_100 {r : Int32} {σ' : Sg} (C : Cx E p s m args meth c RX8 cX8_ranked 7) (hr : meth.sig.returnType = (some .int)) {σ : Sg} (h : DX8_ranked_100  σ = some (r, σ')) : Y E p l e (rmA 7 0 0) s m args below meth c (some (.int r)) σ' 0 0 7 0 0 σ 100 [none, none, none, none, none, none, none] [] := by
  unfold DX8_ranked_100 at h
  refine x_bipush (v := -2) (pc := 100) C dX8_ranked_100 (by decide) ?_
  cases h
  exact x_iret C hr dX8_ranked_102
def DX8_ranked_13 : Nat → Nat → Int32 → Int32 → Sg → Option (Int32 × Sg)
  | 0, _, _, _, _ => none
  | n + 1, l0, l1, l2, σ =>
    chk (ckO σ 6 l0) <|
    if (gI σ l0 4) ≤ l2 then
      DX8_ranked_100 σ
    else
      DX8_ranked_26 (DX8_ranked_13 n) FU l0 l1 l2 (0 : Int32) (0 : Int32) σ
theorem tX8_ranked_13 {r : Int32} {σ' : Sg} (C : Cx E p s m args meth c RX8 cX8_ranked 7) (hr : meth.sig.returnType = (some .int)) : ∀ (n : Nat) (l0 : Nat) (l1 : Int32) (l2 : Int32) (σ : Sg) (h : DX8_ranked_13 n l0 l1 l2 σ = some (r, σ')), Y E p l e (rmA 7 0 0) s m args below meth c (some (.int r)) σ' 0 0 7 0 0 σ 13 [some (.ref (ad E l0)), some (.int l1), some (.int l2), none, none, none, none] [] := by
  intro n
  induction n with
  | zero => intro l0 l1 l2 σ h; cases h
  | succ n ih =>
    intro l0 l1 l2 σ h
    unfold DX8_ranked_13 at h
    refine x_iload_n (pc := 13) C dX8_ranked_13 rfl rfl ?_
    refine x_aload_n (pc := 14) C dX8_ranked_14 rfl rfl ?_
    obtain ⟨k, h⟩ := chk_s h
    refine x_getI (pc := 15) C fX8_189 rfl k dX8_ranked_15 ?_
    refine x_icmp_ge (pc := 18) (tgt := 100) C dX8_ranked_18 (by decide) (fun q => ?_) (fun q => ?_)
    · rw [if_pos q] at h
      exact x_sub (tX8_ranked_100 C hr h) (xLe_n (xLe_n (xLe_n (xLe_n (xLe_n (xLe_n (xLe_n xLe_0)))))))
    · rw [if_neg q] at h
      refine x_iconst (v := 0) (pc := 21) C dX8_ranked_21 (by decide) ?_
      refine x_istore_n (M := [some _, some _, some _, some _, none, none, none]) (pc := 22) C dX8_ranked_22 rfl (by decide) rfl ?_
      refine x_iconst (v := 0) (pc := 23) C dX8_ranked_23 (by decide) ?_
      refine x_istore (M := [some _, some _, some _, some _, some _, none, none]) (pc := 24) C dX8_ranked_24 (by decide) rfl ?_
      exact x_sub (tX8_ranked_26 C hr ih FU _ _ _ _ _ _ h) (xLe_s (xLe_s (xLe_s (xLe_s (xLe_s (xLe_n (xLe_n xLe_0)))))))
def DX8_ranked (l0 : Nat) (l1 : Int32) (σ : Sg) : Option (Int32 × Sg) :=
  chk (ckO σ 6 l0) <|
  wlet (pI σ l0 0 (0 : Int32)) fun σ1 =>
  if 0 ≤ l1 then
    DX8_ranked_13 FU l0 l1 (0 : Int32) σ1
  else
    some ((-1 : Int32), σ1)
theorem mX8_ranked (E : Ev) (l : Launch) {l0 : Nat} {l1 : Int32} {σ : Sg} {r : Int32} {σ' : Sg} (h : DX8_ranked l0 l1 σ = some (r, σ')) : Mt E l yX8_ranked cX8_ranked 7 (some .int) 7 0 0 [.ref (ad E l0), .int l1] σ (some (.int r)) σ' := by
  refine Mt.ofX (by decide) (Nat.le_of_ble_eq_true rfl) (L0 := [some (.ref (ad E l0)), some (.int l1), none, none, none, none, none]) (xEntN_ok [.ref (ad E l0), .int l1] 7) (fun p e s m args below meth c C hr hn => ?_)
  unfold DX8_ranked at h
  refine x_aload_n (pc := 0) C dX8_ranked_0 rfl rfl ?_
  refine x_iconst (v := 0) (pc := 1) C dX8_ranked_1 (by decide) ?_
  obtain ⟨k, h⟩ := chk_s h
  obtain ⟨σ1, e1, h⟩ := wlet_s h
  refine x_putI (pc := 2) C pX8_112 rfl k dX8_ranked_2 (x_eq e1 ?_)
  refine x_iload_n (pc := 5) C dX8_ranked_5 rfl rfl ?_
  refine x_if_ge (pc := 6) (tgt := 11) C dX8_ranked_6 (by decide) (fun q => ?_) (fun q => ?_)
  · rw [if_pos q] at h
    refine x_iconst (v := 0) (pc := 11) C dX8_ranked_11 (by decide) ?_
    refine x_istore_n (M := [some _, some _, some _, none, none, none, none]) (pc := 12) C dX8_ranked_12 rfl (by decide) rfl ?_
    exact x_sub (tX8_ranked_13 C hr FU _ _ _ _ h) (xLe_s (xLe_s (xLe_s (xLe_n (xLe_n (xLe_n (xLe_n xLe_0)))))))
  · rw [if_neg q] at h
    refine x_iconst (v := -1) (pc := 9) C dX8_ranked_9 (by decide) ?_
    cases h
    exact x_iret C hr dX8_ranked_10
def DX8_most_22 (σ : Sg) : Option (Int32 × Sg) :=
  some ((-1 : Int32), σ)
theorem tX8_most_22 {r : Int32} {σ' : Sg} (C : Cx E p s m args meth c RX8 cX8_most 5) (hr : meth.sig.returnType = (some .int)) {σ : Sg} (h : DX8_most_22  σ = some (r, σ')) : Y E p l e (rmA 7 0 0) s m args below meth c (some (.int r)) σ' 0 0 5 0 0 σ 22 [none, none, none, none, none] [] := by
  unfold DX8_most_22 at h
  refine x_iconst (v := -1) (pc := 22) C dX8_most_22 (by decide) ?_
  cases h
  exact x_iret C hr dX8_most_23
def DX8_most_131 (K81 : Nat → Int32 → Int32 → Int32 → Int32 → Sg → Option (Int32 × Sg)) (l0 : Nat) (l1 : Int32) (l2 : Int32) (l3 : Int32) (l4 : Int32) (σ : Sg) : Option (Int32 × Sg) :=
  K81 l0 l1 l2 l3 (l4 + (1 : Int32)) σ
theorem tX8_most_131 {r : Int32} {σ' : Sg} (C : Cx E p s m args meth c RX8 cX8_most 5) (hr : meth.sig.returnType = (some .int)) {K81 : Nat → Int32 → Int32 → Int32 → Int32 → Sg → Option (Int32 × Sg)} (hK81 : ∀ (l0 : Nat) (l1 : Int32) (l2 : Int32) (l3 : Int32) (l4 : Int32) (σ : Sg), K81 l0 l1 l2 l3 l4 σ = some (r, σ') → Y E p l e (rmA 7 0 0) s m args below meth c (some (.int r)) σ' 0 0 5 0 0 σ 81 [some (.ref (ad E l0)), some (.int l1), some (.int l2), some (.int l3), some (.int l4)] []) {l0 : Nat} {l1 : Int32} {l2 : Int32} {l3 : Int32} {l4 : Int32} {σ : Sg} (h : DX8_most_131 K81 l0 l1 l2 l3 l4 σ = some (r, σ')) : Y E p l e (rmA 7 0 0) s m args below meth c (some (.int r)) σ' 0 0 5 0 0 σ 131 [some (.ref (ad E l0)), some (.int l1), some (.int l2), some (.int l3), some (.int l4)] [] := by
  unfold DX8_most_131 at h
  refine x_iinc (v := 1) (M := [some _, some _, some _, some _, some _]) (pc := 131) C dX8_most_131 rfl (by decide) (by decide) rfl ?_
  refine x_goto (tgt := 81) (pc := 134) C dX8_most_134 (by decide) ?_
  exact x_sub (hK81 _ _ _ _ _ _ h) (xLe_s (xLe_s (xLe_s (xLe_s (xLe_s xLe_0)))))
def DX8_most_158 (s0 : Int32) (σ : Sg) : Option (Int32 × Sg) :=
  some (s0, σ)
theorem tX8_most_158 {r : Int32} {σ' : Sg} (C : Cx E p s m args meth c RX8 cX8_most 5) (hr : meth.sig.returnType = (some .int)) {s0 : Int32} {σ : Sg} (h : DX8_most_158 s0 σ = some (r, σ')) : Y E p l e (rmA 7 0 0) s m args below meth c (some (.int r)) σ' 0 0 5 0 0 σ 158 [none, none, none, none, none] [.int s0] := by
  unfold DX8_most_158 at h
  cases h
  exact x_iret C hr dX8_most_158
def DX8_most_137 (l0 : Nat) (l2 : Int32) (l3 : Int32) (σ : Sg) : Option (Int32 × Sg) :=
  if l2 = 0 then
    DX8_most_158 l3 σ
  else
    chk (ckO σ 6 l0) <|
    chk (ckV (gR σ l0 51)) <|
    chk (ckI σ (gR σ l0 51) l3) <|
    chk (ckO σ 6 l0) <|
    chk (ckV (gR σ l0 52)) <|
    chk (ckI σ (gR σ l0 52) l3) <|
    DX8_most_158 ((aI σ (gR σ l0 51) l3.toNatClampNeg) - (aI σ (gR σ l0 52) l3.toNatClampNeg)) σ
theorem tX8_most_137 {r : Int32} {σ' : Sg} (C : Cx E p s m args meth c RX8 cX8_most 5) (hr : meth.sig.returnType = (some .int)) {l0 : Nat} {l2 : Int32} {l3 : Int32} {σ : Sg} (h : DX8_most_137 l0 l2 l3 σ = some (r, σ')) : Y E p l e (rmA 7 0 0) s m args below meth c (some (.int r)) σ' 0 0 5 0 0 σ 137 [some (.ref (ad E l0)), none, some (.int l2), some (.int l3), none] [] := by
  unfold DX8_most_137 at h
  refine x_iload_n (pc := 137) C dX8_most_137 rfl rfl ?_
  refine x_if_ne (pc := 138) (tgt := 145) C dX8_most_138 (by decide) (fun q => ?_) (fun q => ?_)
  · rw [if_pos q] at h
    refine x_iload_n (pc := 141) C dX8_most_141 rfl rfl ?_
    refine x_goto (tgt := 158) (pc := 142) C dX8_most_142 (by decide) ?_
    exact x_sub (tX8_most_158 C hr h) (xLe_n (xLe_n (xLe_n (xLe_n (xLe_n xLe_0)))))
  · rw [if_neg q] at h
    refine x_aload_n (pc := 145) C dX8_most_145 rfl rfl ?_
    obtain ⟨k, h⟩ := chk_s h
    have k2 := k
    obtain ⟨k, h⟩ := chk_s h
    refine x_getR (pc := 146) C fX8_88 rfl k2 k dX8_most_146 ?_
    refine x_iload_n (pc := 149) C dX8_most_149 rfl rfl ?_
    obtain ⟨k, h⟩ := chk_s h
    refine x_iald (pc := 150) C k dX8_most_150 ?_
    refine x_aload_n (pc := 151) C dX8_most_151 rfl rfl ?_
    obtain ⟨k, h⟩ := chk_s h
    have k2 := k
    obtain ⟨k, h⟩ := chk_s h
    refine x_getR (pc := 152) C fX8_91 rfl k2 k dX8_most_152 ?_
    refine x_iload_n (pc := 155) C dX8_most_155 rfl rfl ?_
    obtain ⟨k, h⟩ := chk_s h
    refine x_iald (pc := 156) C k dX8_most_156 ?_
    refine x_isub (pc := 157) C dX8_most_157 ?_
    exact x_sub (tX8_most_158 C hr h) (xLe_n (xLe_n (xLe_n (xLe_n (xLe_n xLe_0)))))
def DX8_most_81 : Nat → Nat → Int32 → Int32 → Int32 → Int32 → Sg → Option (Int32 × Sg)
  | 0, _, _, _, _, _, _ => none
  | n + 1, l0, l1, l2, l3, l4, σ =>
    chk (ckO σ 6 l0) <|
    bnd (DX8_couponsOf l0 l1 σ) fun v1 σ2 =>
    if v1 ≤ l4 then
      DX8_most_137 l0 l2 l3 σ2
    else
      chk (ckO σ2 6 l0) <|
      chk (ckV (gR σ2 l0 51)) <|
      chk (ckI σ2 (gR σ2 l0 51) l4) <|
      chk (ckO σ2 6 l0) <|
      chk (ckV (gR σ2 l0 52)) <|
      chk (ckI σ2 (gR σ2 l0 52) l4) <|
      chk (ckO σ2 6 l0) <|
      chk (ckV (gR σ2 l0 51)) <|
      chk (ckI σ2 (gR σ2 l0 51) l3) <|
      chk (ckO σ2 6 l0) <|
      chk (ckV (gR σ2 l0 52)) <|
      chk (ckI σ2 (gR σ2 l0 52) l3) <|
      if (iabs ((aI σ2 (gR σ2 l0 51) l4.toNatClampNeg) - (aI σ2 (gR σ2 l0 52) l4.toNatClampNeg))) ≤ (iabs ((aI σ2 (gR σ2 l0 51) l3.toNatClampNeg) - (aI σ2 (gR σ2 l0 52) l3.toNatClampNeg))) then
        DX8_most_131 (DX8_most_81 n) l0 l1 l2 l3 l4 σ2
      else
        DX8_most_131 (DX8_most_81 n) l0 l1 l2 l4 l4 σ2
theorem tX8_most_81 {r : Int32} {σ' : Sg} (C : Cx E p s m args meth c RX8 cX8_most 5) (hr : meth.sig.returnType = (some .int)) : ∀ (n : Nat) (l0 : Nat) (l1 : Int32) (l2 : Int32) (l3 : Int32) (l4 : Int32) (σ : Sg) (h : DX8_most_81 n l0 l1 l2 l3 l4 σ = some (r, σ')), Y E p l e (rmA 7 0 0) s m args below meth c (some (.int r)) σ' 0 0 5 0 0 σ 81 [some (.ref (ad E l0)), some (.int l1), some (.int l2), some (.int l3), some (.int l4)] [] := by
  intro n
  induction n with
  | zero => intro l0 l1 l2 l3 l4 σ h; cases h
  | succ n ih =>
    intro l0 l1 l2 l3 l4 σ h
    unfold DX8_most_81 at h
    refine x_iload (pc := 81) C dX8_most_81 rfl ?_
    refine x_aload_n (pc := 83) C dX8_most_83 rfl rfl ?_
    refine x_iload_n (pc := 84) C dX8_most_84 rfl rfl ?_
    obtain ⟨k, h⟩ := chk_s h
    have k2 := k
    obtain ⟨v1, σ2, k, h⟩ := bnd_s h
    refine x_callV1 (pc := 85) C (mX8_couponsOf E l k) cl6 k2 cX8_301 nX8_couponsOf sX8_couponsOf rfl rfl (Nat.le_of_ble_eq_true rfl) ⟨Nat.le_of_ble_eq_true rfl, Nat.le_of_ble_eq_true rfl, Nat.le_of_ble_eq_true rfl, Nat.le_of_ble_eq_true rfl⟩ dX8_most_85 ?_
    refine x_icmp_ge (pc := 88) (tgt := 137) C dX8_most_88 (by decide) (fun q => ?_) (fun q => ?_)
    · rw [if_pos q] at h
      exact x_sub (tX8_most_137 C hr h) (xLe_s (xLe_n (xLe_s (xLe_s (xLe_n xLe_0)))))
    · rw [if_neg q] at h
      refine x_aload_n (pc := 91) C dX8_most_91 rfl rfl ?_
      obtain ⟨k, h⟩ := chk_s h
      have k2 := k
      obtain ⟨k, h⟩ := chk_s h
      refine x_getR (pc := 92) C fX8_88 rfl k2 k dX8_most_92 ?_
      refine x_iload (pc := 95) C dX8_most_95 rfl ?_
      obtain ⟨k, h⟩ := chk_s h
      refine x_iald (pc := 97) C k dX8_most_97 ?_
      refine x_aload_n (pc := 98) C dX8_most_98 rfl rfl ?_
      obtain ⟨k, h⟩ := chk_s h
      have k2 := k
      obtain ⟨k, h⟩ := chk_s h
      refine x_getR (pc := 99) C fX8_91 rfl k2 k dX8_most_99 ?_
      refine x_iload (pc := 102) C dX8_most_102 rfl ?_
      obtain ⟨k, h⟩ := chk_s h
      refine x_iald (pc := 104) C k dX8_most_104 ?_
      refine x_isub (pc := 105) C dX8_most_105 ?_
      refine x_mabs (pc := 106) C oX8_441 mmabs1 mmi mmabs2 ⟨Nat.le_of_ble_eq_true rfl, Nat.le_of_ble_eq_true rfl, Nat.le_of_ble_eq_true rfl, Nat.le_of_ble_eq_true rfl⟩ dX8_most_106 ?_
      refine x_aload_n (pc := 109) C dX8_most_109 rfl rfl ?_
      obtain ⟨k, h⟩ := chk_s h
      have k2 := k
      obtain ⟨k, h⟩ := chk_s h
      refine x_getR (pc := 110) C fX8_88 rfl k2 k dX8_most_110 ?_
      refine x_iload_n (pc := 113) C dX8_most_113 rfl rfl ?_
      obtain ⟨k, h⟩ := chk_s h
      refine x_iald (pc := 114) C k dX8_most_114 ?_
      refine x_aload_n (pc := 115) C dX8_most_115 rfl rfl ?_
      obtain ⟨k, h⟩ := chk_s h
      have k2 := k
      obtain ⟨k, h⟩ := chk_s h
      refine x_getR (pc := 116) C fX8_91 rfl k2 k dX8_most_116 ?_
      refine x_iload_n (pc := 119) C dX8_most_119 rfl rfl ?_
      obtain ⟨k, h⟩ := chk_s h
      refine x_iald (pc := 120) C k dX8_most_120 ?_
      refine x_isub (pc := 121) C dX8_most_121 ?_
      refine x_mabs (pc := 122) C oX8_441 mmabs1 mmi mmabs2 ⟨Nat.le_of_ble_eq_true rfl, Nat.le_of_ble_eq_true rfl, Nat.le_of_ble_eq_true rfl, Nat.le_of_ble_eq_true rfl⟩ dX8_most_122 ?_
      refine x_icmp_le (pc := 125) (tgt := 131) C dX8_most_125 (by decide) (fun q => ?_) (fun q => ?_)
      · rw [if_pos q] at h
        exact x_sub (tX8_most_131 C hr ih h) (xLe_s (xLe_s (xLe_s (xLe_s (xLe_s xLe_0)))))
      · rw [if_neg q] at h
        refine x_iload (pc := 128) C dX8_most_128 rfl ?_
        refine x_istore_n (M := [some _, some _, some _, some _, some _]) (pc := 130) C dX8_most_130 rfl (by decide) rfl ?_
        exact x_sub (tX8_most_131 C hr ih h) (xLe_s (xLe_s (xLe_s (xLe_s (xLe_s xLe_0)))))
def DX8_most_71 (l0 : Nat) (l1 : Int32) (l2 : Int32) (σ : Sg) : Option (Int32 × Sg) :=
  chk (ckO σ 6 l0) <|
  bnd (DX8_prorates_ l0 l1 σ) fun _ σ1 =>
  DX8_most_81 FU l0 l1 l2 (0 : Int32) (1 : Int32) σ1
theorem tX8_most_71 {r : Int32} {σ' : Sg} (C : Cx E p s m args meth c RX8 cX8_most 5) (hr : meth.sig.returnType = (some .int)) {l0 : Nat} {l1 : Int32} {l2 : Int32} {σ : Sg} (h : DX8_most_71 l0 l1 l2 σ = some (r, σ')) : Y E p l e (rmA 7 0 0) s m args below meth c (some (.int r)) σ' 0 0 5 0 0 σ 71 [some (.ref (ad E l0)), some (.int l1), some (.int l2), none, none] [] := by
  unfold DX8_most_71 at h
  refine x_aload_n (pc := 71) C dX8_most_71 rfl rfl ?_
  refine x_iload_n (pc := 72) C dX8_most_72 rfl rfl ?_
  obtain ⟨k, h⟩ := chk_s h
  have k2 := k
  obtain ⟨u0, σ1, k, h⟩ := bnd_s h
  refine x_callV0 (pc := 73) C (mX8_prorates_ E l k) cl6 k2 cX8_396 nX8_prorates_ sX8_prorates_ rfl rfl (Nat.le_of_ble_eq_true rfl) ⟨Nat.le_of_ble_eq_true rfl, Nat.le_of_ble_eq_true rfl, Nat.le_of_ble_eq_true rfl, Nat.le_of_ble_eq_true rfl⟩ dX8_most_73 ?_
  refine x_iconst (v := 0) (pc := 76) C dX8_most_76 (by decide) ?_
  refine x_istore_n (M := [some _, some _, some _, some _, none]) (pc := 77) C dX8_most_77 rfl (by decide) rfl ?_
  refine x_iconst (v := 1) (pc := 78) C dX8_most_78 (by decide) ?_
  refine x_istore (M := [some _, some _, some _, some _, some _]) (pc := 79) C dX8_most_79 (by decide) rfl ?_
  exact x_sub (tX8_most_81 C hr FU _ _ _ _ _ _ h) (xLe_s (xLe_s (xLe_s (xLe_s (xLe_s xLe_0)))))
def DX8_most_44 : Nat → Nat → Int32 → Int32 → Int32 → Sg → Option (Int32 × Sg)
  | 0, _, _, _, _, _ => none
  | n + 1, l0, l1, l2, l3, σ =>
    chk (ckO σ 6 l0) <|
    bnd (DX8_couponsOf l0 l1 σ) fun v1 σ2 =>
    if v1 ≤ l3 then
      DX8_most_71 l0 l1 l2 σ2
    else
      chk (ckO σ2 6 l0) <|
      chk (ckV (gR σ2 l0 52)) <|
      chk (ckO σ2 6 l0) <|
      chk (ckV (gR σ2 l0 51)) <|
      chk (ckI σ2 (gR σ2 l0 51) l3) <|
      chk (ckI σ2 (gR σ2 l0 52) l3) <|
      wlet (wI σ2 (gR σ2 l0 52) l3.toNatClampNeg (aI σ2 (gR σ2 l0 51) l3.toNatClampNeg)) fun σ3 =>
      DX8_most_44 n l0 l1 l2 (l3 + (1 : Int32)) σ3
theorem tX8_most_44 {r : Int32} {σ' : Sg} (C : Cx E p s m args meth c RX8 cX8_most 5) (hr : meth.sig.returnType = (some .int)) : ∀ (n : Nat) (l0 : Nat) (l1 : Int32) (l2 : Int32) (l3 : Int32) (σ : Sg) (h : DX8_most_44 n l0 l1 l2 l3 σ = some (r, σ')), Y E p l e (rmA 7 0 0) s m args below meth c (some (.int r)) σ' 0 0 5 0 0 σ 44 [some (.ref (ad E l0)), some (.int l1), some (.int l2), some (.int l3), none] [] := by
  intro n
  induction n with
  | zero => intro l0 l1 l2 l3 σ h; cases h
  | succ n ih =>
    intro l0 l1 l2 l3 σ h
    unfold DX8_most_44 at h
    refine x_iload_n (pc := 44) C dX8_most_44 rfl rfl ?_
    refine x_aload_n (pc := 45) C dX8_most_45 rfl rfl ?_
    refine x_iload_n (pc := 46) C dX8_most_46 rfl rfl ?_
    obtain ⟨k, h⟩ := chk_s h
    have k2 := k
    obtain ⟨v1, σ2, k, h⟩ := bnd_s h
    refine x_callV1 (pc := 47) C (mX8_couponsOf E l k) cl6 k2 cX8_301 nX8_couponsOf sX8_couponsOf rfl rfl (Nat.le_of_ble_eq_true rfl) ⟨Nat.le_of_ble_eq_true rfl, Nat.le_of_ble_eq_true rfl, Nat.le_of_ble_eq_true rfl, Nat.le_of_ble_eq_true rfl⟩ dX8_most_47 ?_
    refine x_icmp_ge (pc := 50) (tgt := 71) C dX8_most_50 (by decide) (fun q => ?_) (fun q => ?_)
    · rw [if_pos q] at h
      exact x_sub (tX8_most_71 C hr h) (xLe_s (xLe_s (xLe_s (xLe_n (xLe_n xLe_0)))))
    · rw [if_neg q] at h
      refine x_aload_n (pc := 53) C dX8_most_53 rfl rfl ?_
      obtain ⟨k, h⟩ := chk_s h
      have k2 := k
      obtain ⟨k, h⟩ := chk_s h
      refine x_getR (pc := 54) C fX8_91 rfl k2 k dX8_most_54 ?_
      refine x_iload_n (pc := 57) C dX8_most_57 rfl rfl ?_
      refine x_aload_n (pc := 58) C dX8_most_58 rfl rfl ?_
      obtain ⟨k, h⟩ := chk_s h
      have k2 := k
      obtain ⟨k, h⟩ := chk_s h
      refine x_getR (pc := 59) C fX8_88 rfl k2 k dX8_most_59 ?_
      refine x_iload_n (pc := 62) C dX8_most_62 rfl rfl ?_
      obtain ⟨k, h⟩ := chk_s h
      refine x_iald (pc := 63) C k dX8_most_63 ?_
      obtain ⟨k, h⟩ := chk_s h
      obtain ⟨σ3, e1, h⟩ := wlet_s h
      refine x_iast (pc := 64) C k dX8_most_64 (x_eq e1 ?_)
      refine x_iinc (v := 1) (M := [some _, some _, some _, some _, none]) (pc := 65) C dX8_most_65 rfl (by decide) (by decide) rfl ?_
      refine x_goto (tgt := 44) (pc := 68) C dX8_most_68 (by decide) ?_
      exact x_sub (ih _ _ _ _ _ h) (xLe_s (xLe_s (xLe_s (xLe_s (xLe_n xLe_0)))))
def DX8_most (l0 : Nat) (l1 : Int32) (l2 : Int32) (σ : Sg) : Option (Int32 × Sg) :=
  chk (ckO σ 6 l0) <|
  wlet (pI σ l0 0 (0 : Int32)) fun σ1 =>
  chk (ckO σ1 6 l0) <|
  bnd (DX8_isTicket l0 l1 σ1) fun v2 σ3 =>
  if v2 = 0 then
    DX8_most_22 σ3
  else
    if l2 < 0 then
      DX8_most_22 σ3
    else
      if l2 ≤ (1 : Int32) then
        chk (ckO σ3 6 l0) <|
        chk (ckV (gR σ3 l0 16)) <|
        chk (ckI σ3 (gR σ3 l0 16) (((4 : Int32) * l1) + (1 : Int32))) <|
        chk (ckO σ3 6 l0) <|
        bnd (DX8_prorates l0 l1 (aI σ3 (gR σ3 l0 16) (((4 : Int32) * l1) + (1 : Int32)).toNatClampNeg) (-2 : Int32) (1 : Int32) σ3) fun _ σ4 =>
        DX8_most_44 FU l0 l1 l2 (0 : Int32) σ4
      else
        DX8_most_22 σ3
theorem mX8_most (E : Ev) (l : Launch) {l0 : Nat} {l1 : Int32} {l2 : Int32} {σ : Sg} {r : Int32} {σ' : Sg} (h : DX8_most l0 l1 l2 σ = some (r, σ')) : Mt E l yX8_most cX8_most 5 (some .int) 7 0 0 [.ref (ad E l0), .int l1, .int l2] σ (some (.int r)) σ' := by
  refine Mt.ofX (by decide) (Nat.le_of_ble_eq_true rfl) (L0 := [some (.ref (ad E l0)), some (.int l1), some (.int l2), none, none]) (xEntN_ok [.ref (ad E l0), .int l1, .int l2] 5) (fun p e s m args below meth c C hr hn => ?_)
  unfold DX8_most at h
  refine x_aload_n (pc := 0) C dX8_most_0 rfl rfl ?_
  refine x_iconst (v := 0) (pc := 1) C dX8_most_1 (by decide) ?_
  obtain ⟨k, h⟩ := chk_s h
  obtain ⟨σ1, e1, h⟩ := wlet_s h
  refine x_putI (pc := 2) C pX8_112 rfl k dX8_most_2 (x_eq e1 ?_)
  refine x_aload_n (pc := 5) C dX8_most_5 rfl rfl ?_
  refine x_iload_n (pc := 6) C dX8_most_6 rfl rfl ?_
  obtain ⟨k, h⟩ := chk_s h
  have k2 := k
  obtain ⟨v2, σ3, k, h⟩ := bnd_s h
  refine x_callV1 (pc := 7) C (mX8_isTicket E l k) cl6 k2 cX8_298 nX8_isTicket sX8_isTicket rfl rfl (Nat.le_of_ble_eq_true rfl) ⟨Nat.le_of_ble_eq_true rfl, Nat.le_of_ble_eq_true rfl, Nat.le_of_ble_eq_true rfl, Nat.le_of_ble_eq_true rfl⟩ dX8_most_7 ?_
  refine x_if_eq (pc := 10) (tgt := 22) C dX8_most_10 (by decide) (fun q => ?_) (fun q => ?_)
  · rw [if_pos q] at h
    exact x_sub (tX8_most_22 C hr h) (xLe_n (xLe_n (xLe_n (xLe_n (xLe_n xLe_0)))))
  · rw [if_neg q] at h
    refine x_iload_n (pc := 13) C dX8_most_13 rfl rfl ?_
    refine x_if_lt (pc := 14) (tgt := 22) C dX8_most_14 (by decide) (fun q => ?_) (fun q => ?_)
    · rw [if_pos q] at h
      exact x_sub (tX8_most_22 C hr h) (xLe_n (xLe_n (xLe_n (xLe_n (xLe_n xLe_0)))))
    · rw [if_neg q] at h
      refine x_iload_n (pc := 17) C dX8_most_17 rfl rfl ?_
      refine x_iconst (v := 1) (pc := 18) C dX8_most_18 (by decide) ?_
      refine x_icmp_le (pc := 19) (tgt := 24) C dX8_most_19 (by decide) (fun q => ?_) (fun q => ?_)
      · rw [if_pos q] at h
        refine x_aload_n (pc := 24) C dX8_most_24 rfl rfl ?_
        refine x_iload_n (pc := 25) C dX8_most_25 rfl rfl ?_
        refine x_aload_n (pc := 26) C dX8_most_26 rfl rfl ?_
        obtain ⟨k, h⟩ := chk_s h
        have k2 := k
        obtain ⟨k, h⟩ := chk_s h
        refine x_getR (pc := 27) C fX8_25 rfl k2 k dX8_most_27 ?_
        refine x_iconst (v := 4) (pc := 30) C dX8_most_30 (by decide) ?_
        refine x_iload_n (pc := 31) C dX8_most_31 rfl rfl ?_
        refine x_imul (pc := 32) C dX8_most_32 ?_
        refine x_iconst (v := 1) (pc := 33) C dX8_most_33 (by decide) ?_
        refine x_iadd (pc := 34) C dX8_most_34 ?_
        obtain ⟨k, h⟩ := chk_s h
        refine x_iald (pc := 35) C k dX8_most_35 ?_
        refine x_bipush (v := -2) (pc := 36) C dX8_most_36 (by decide) ?_
        refine x_iconst (v := 1) (pc := 38) C dX8_most_38 (by decide) ?_
        obtain ⟨k, h⟩ := chk_s h
        have k2 := k
        obtain ⟨u0, σ4, k, h⟩ := bnd_s h
        refine x_callV0 (pc := 39) C (mX8_prorates E l k) cl6 k2 cX8_383 nX8_prorates sX8_prorates rfl rfl (Nat.le_of_ble_eq_true rfl) ⟨Nat.le_of_ble_eq_true rfl, Nat.le_of_ble_eq_true rfl, Nat.le_of_ble_eq_true rfl, Nat.le_of_ble_eq_true rfl⟩ dX8_most_39 ?_
        refine x_iconst (v := 0) (pc := 42) C dX8_most_42 (by decide) ?_
        refine x_istore_n (M := [some _, some _, some _, some _, none]) (pc := 43) C dX8_most_43 rfl (by decide) rfl ?_
        exact x_sub (tX8_most_44 C hr FU _ _ _ _ _ h) (xLe_s (xLe_s (xLe_s (xLe_s (xLe_n xLe_0)))))
      · rw [if_neg q] at h
        exact x_sub (tX8_most_22 C hr h) (xLe_n (xLe_n (xLe_n (xLe_n (xLe_n xLe_0)))))
def DX8_may_22 (σ : Sg) : Option (Int32 × Sg) :=
  some ((-1 : Int32), σ)
theorem tX8_may_22 {r : Int32} {σ' : Sg} (C : Cx E p s m args meth c RX8 cX8_may 6) (hr : meth.sig.returnType = (some .int)) {σ : Sg} (h : DX8_may_22  σ = some (r, σ')) : Y E p l e (rmA 3 0 0) s m args below meth c (some (.int r)) σ' 0 0 6 0 0 σ 22 [none, none, none, none, none, none] [] := by
  unfold DX8_may_22 at h
  refine x_iconst (v := -1) (pc := 22) C dX8_may_22 (by decide) ?_
  cases h
  exact x_iret C hr dX8_may_23
def DX8_may_102 (K39 : Nat → Int32 → Int32 → Int32 → Int32 → Sg → Option (Int32 × Sg)) (l0 : Nat) (l1 : Int32) (l2 : Int32) (l4 : Int32) (s0 : Int32) (s1 : Int32) (σ : Sg) : Option (Int32 × Sg) :=
  K39 l0 l1 l2 (s0 ||| s1) (l4 + (1 : Int32)) σ
theorem tX8_may_102 {r : Int32} {σ' : Sg} (C : Cx E p s m args meth c RX8 cX8_may 6) (hr : meth.sig.returnType = (some .int)) {K39 : Nat → Int32 → Int32 → Int32 → Int32 → Sg → Option (Int32 × Sg)} (hK39 : ∀ (l0 : Nat) (l1 : Int32) (l2 : Int32) (l3 : Int32) (l4 : Int32) (σ : Sg), K39 l0 l1 l2 l3 l4 σ = some (r, σ') → Y E p l e (rmA 3 0 0) s m args below meth c (some (.int r)) σ' 0 0 6 0 0 σ 39 [some (.ref (ad E l0)), some (.int l1), some (.int l2), some (.int l3), some (.int l4), none] []) {l0 : Nat} {l1 : Int32} {l2 : Int32} {l4 : Int32} {s0 : Int32} {s1 : Int32} {σ : Sg} (h : DX8_may_102 K39 l0 l1 l2 l4 s0 s1 σ = some (r, σ')) : Y E p l e (rmA 3 0 0) s m args below meth c (some (.int r)) σ' 0 0 6 0 0 σ 102 [some (.ref (ad E l0)), some (.int l1), some (.int l2), none, some (.int l4), none] [.int s1, .int s0] := by
  unfold DX8_may_102 at h
  refine x_ior (pc := 102) C dX8_may_102 ?_
  refine x_istore_n (M := [some _, some _, some _, some _, some _, none]) (pc := 103) C dX8_may_103 rfl (by decide) rfl ?_
  refine x_iinc (v := 1) (M := [some _, some _, some _, some _, some _, none]) (pc := 104) C dX8_may_104 rfl (by decide) (by decide) rfl ?_
  refine x_goto (tgt := 39) (pc := 107) C dX8_may_107 (by decide) ?_
  exact x_sub (hK39 _ _ _ _ _ _ h) (xLe_s (xLe_s (xLe_s (xLe_s (xLe_s (xLe_n xLe_0))))))
def DX8_may_86 (K39 : Nat → Int32 → Int32 → Int32 → Int32 → Sg → Option (Int32 × Sg)) (l0 : Nat) (l1 : Int32) (l2 : Int32) (l3 : Int32) (l4 : Int32) (s0 : Int32) (σ : Sg) : Option (Int32 × Sg) :=
  if s0 = 0 then
    DX8_may_102 K39 l0 l1 l2 l4 l3 (0 : Int32) σ
  else
    DX8_may_102 K39 l0 l1 l2 l4 l3 ((1 : Int32) <<< (l4 &&& 31)) σ
theorem tX8_may_86 {r : Int32} {σ' : Sg} (C : Cx E p s m args meth c RX8 cX8_may 6) (hr : meth.sig.returnType = (some .int)) {K39 : Nat → Int32 → Int32 → Int32 → Int32 → Sg → Option (Int32 × Sg)} (hK39 : ∀ (l0 : Nat) (l1 : Int32) (l2 : Int32) (l3 : Int32) (l4 : Int32) (σ : Sg), K39 l0 l1 l2 l3 l4 σ = some (r, σ') → Y E p l e (rmA 3 0 0) s m args below meth c (some (.int r)) σ' 0 0 6 0 0 σ 39 [some (.ref (ad E l0)), some (.int l1), some (.int l2), some (.int l3), some (.int l4), none] []) {l0 : Nat} {l1 : Int32} {l2 : Int32} {l3 : Int32} {l4 : Int32} {s0 : Int32} {σ : Sg} (h : DX8_may_86 K39 l0 l1 l2 l3 l4 s0 σ = some (r, σ')) : Y E p l e (rmA 3 0 0) s m args below meth c (some (.int r)) σ' 0 0 6 0 0 σ 86 [some (.ref (ad E l0)), some (.int l1), some (.int l2), some (.int l3), some (.int l4), none] [.int s0] := by
  unfold DX8_may_86 at h
  refine x_istore (M := [some _, some _, some _, some _, some _, some _]) (pc := 86) C dX8_may_86 (by decide) rfl ?_
  refine x_iload_n (pc := 88) C dX8_may_88 rfl rfl ?_
  refine x_iload (pc := 89) C dX8_may_89 rfl ?_
  refine x_if_eq (pc := 91) (tgt := 101) C dX8_may_91 (by decide) (fun q => ?_) (fun q => ?_)
  · rw [if_pos q] at h
    refine x_iconst (v := 0) (pc := 101) C dX8_may_101 (by decide) ?_
    exact x_sub (tX8_may_102 C hr hK39 h) (xLe_s (xLe_s (xLe_s (xLe_n (xLe_s (xLe_n xLe_0))))))
  · rw [if_neg q] at h
    refine x_iconst (v := 1) (pc := 94) C dX8_may_94 (by decide) ?_
    refine x_iload (pc := 95) C dX8_may_95 rfl ?_
    refine x_ishl (pc := 97) C dX8_may_97 ?_
    refine x_goto (tgt := 102) (pc := 98) C dX8_may_98 (by decide) ?_
    exact x_sub (tX8_may_102 C hr hK39 h) (xLe_s (xLe_s (xLe_s (xLe_n (xLe_s (xLe_n xLe_0))))))
def DX8_may_110 (l3 : Int32) (σ : Sg) : Option (Int32 × Sg) :=
  some (l3, σ)
theorem tX8_may_110 {r : Int32} {σ' : Sg} (C : Cx E p s m args meth c RX8 cX8_may 6) (hr : meth.sig.returnType = (some .int)) {l3 : Int32} {σ : Sg} (h : DX8_may_110 l3 σ = some (r, σ')) : Y E p l e (rmA 3 0 0) s m args below meth c (some (.int r)) σ' 0 0 6 0 0 σ 110 [none, none, none, some (.int l3), none, none] [] := by
  unfold DX8_may_110 at h
  refine x_iload_n (pc := 110) C dX8_may_110 rfl rfl ?_
  cases h
  exact x_iret C hr dX8_may_111
def DX8_may_39 : Nat → Nat → Int32 → Int32 → Int32 → Int32 → Sg → Option (Int32 × Sg)
  | 0, _, _, _, _, _, _ => none
  | n + 1, l0, l1, l2, l3, l4, σ =>
    chk (ckO σ 6 l0) <|
    bnd (DX8_couponsOf l0 l1 σ) fun v1 σ2 =>
    if v1 ≤ l4 then
      DX8_may_110 l3 σ2
    else
      if l2 = 0 then
        chk (ckO σ2 6 l0) <|
        bnd (DX8_firstToFly l0 l1 σ2) fun v3 σ4 =>
        if v3 = l4 then
          DX8_may_86 (DX8_may_39 n) l0 l1 l2 l3 l4 (1 : Int32) σ4
        else
          DX8_may_86 (DX8_may_39 n) l0 l1 l2 l3 l4 (0 : Int32) σ4
      else
        chk (ckO σ2 6 l0) <|
        bnd (DX8_isFlown l0 l1 l4 σ2) fun v5 σ6 =>
        if v5 = 0 then
          DX8_may_86 (DX8_may_39 n) l0 l1 l2 l3 l4 (1 : Int32) σ6
        else
          DX8_may_86 (DX8_may_39 n) l0 l1 l2 l3 l4 (0 : Int32) σ6
theorem tX8_may_39 {r : Int32} {σ' : Sg} (C : Cx E p s m args meth c RX8 cX8_may 6) (hr : meth.sig.returnType = (some .int)) : ∀ (n : Nat) (l0 : Nat) (l1 : Int32) (l2 : Int32) (l3 : Int32) (l4 : Int32) (σ : Sg) (h : DX8_may_39 n l0 l1 l2 l3 l4 σ = some (r, σ')), Y E p l e (rmA 3 0 0) s m args below meth c (some (.int r)) σ' 0 0 6 0 0 σ 39 [some (.ref (ad E l0)), some (.int l1), some (.int l2), some (.int l3), some (.int l4), none] [] := by
  intro n
  induction n with
  | zero => intro l0 l1 l2 l3 l4 σ h; cases h
  | succ n ih =>
    intro l0 l1 l2 l3 l4 σ h
    unfold DX8_may_39 at h
    refine x_iload (pc := 39) C dX8_may_39 rfl ?_
    refine x_aload_n (pc := 41) C dX8_may_41 rfl rfl ?_
    refine x_iload_n (pc := 42) C dX8_may_42 rfl rfl ?_
    obtain ⟨k, h⟩ := chk_s h
    have k2 := k
    obtain ⟨v1, σ2, k, h⟩ := bnd_s h
    refine x_callV1 (pc := 43) C (mX8_couponsOf E l k) cl6 k2 cX8_301 nX8_couponsOf sX8_couponsOf rfl rfl (Nat.le_of_ble_eq_true rfl) ⟨Nat.le_of_ble_eq_true rfl, Nat.le_of_ble_eq_true rfl, Nat.le_of_ble_eq_true rfl, Nat.le_of_ble_eq_true rfl⟩ dX8_may_43 ?_
    refine x_icmp_ge (pc := 46) (tgt := 110) C dX8_may_46 (by decide) (fun q => ?_) (fun q => ?_)
    · rw [if_pos q] at h
      exact x_sub (tX8_may_110 C hr h) (xLe_n (xLe_n (xLe_n (xLe_s (xLe_n (xLe_n xLe_0))))))
    · rw [if_neg q] at h
      refine x_iload_n (pc := 49) C dX8_may_49 rfl rfl ?_
      refine x_if_ne (pc := 50) (tgt := 71) C dX8_may_50 (by decide) (fun q => ?_) (fun q => ?_)
      · rw [if_pos q] at h
        refine x_aload_n (pc := 53) C dX8_may_53 rfl rfl ?_
        refine x_iload_n (pc := 54) C dX8_may_54 rfl rfl ?_
        obtain ⟨k, h⟩ := chk_s h
        have k2 := k
        obtain ⟨v3, σ4, k, h⟩ := bnd_s h
        refine x_callV1 (pc := 55) C (mX8_firstToFly E l k) cl6 k2 cX8_407 nX8_firstToFly sX8_firstToFly rfl rfl (Nat.le_of_ble_eq_true rfl) ⟨Nat.le_of_ble_eq_true rfl, Nat.le_of_ble_eq_true rfl, Nat.le_of_ble_eq_true rfl, Nat.le_of_ble_eq_true rfl⟩ dX8_may_55 ?_
        refine x_iload (pc := 58) C dX8_may_58 rfl ?_
        refine x_icmp_ne (pc := 60) (tgt := 67) C dX8_may_60 (by decide) (fun q => ?_) (fun q => ?_)
        · rw [if_pos q] at h
          refine x_iconst (v := 1) (pc := 63) C dX8_may_63 (by decide) ?_
          refine x_goto (tgt := 86) (pc := 64) C dX8_may_64 (by decide) ?_
          exact x_sub (tX8_may_86 C hr ih h) (xLe_s (xLe_s (xLe_s (xLe_s (xLe_s (xLe_n xLe_0))))))
        · rw [if_neg q] at h
          refine x_iconst (v := 0) (pc := 67) C dX8_may_67 (by decide) ?_
          refine x_goto (tgt := 86) (pc := 68) C dX8_may_68 (by decide) ?_
          exact x_sub (tX8_may_86 C hr ih h) (xLe_s (xLe_s (xLe_s (xLe_s (xLe_s (xLe_n xLe_0))))))
      · rw [if_neg q] at h
        refine x_aload_n (pc := 71) C dX8_may_71 rfl rfl ?_
        refine x_iload_n (pc := 72) C dX8_may_72 rfl rfl ?_
        refine x_iload (pc := 73) C dX8_may_73 rfl ?_
        obtain ⟨k, h⟩ := chk_s h
        have k2 := k
        obtain ⟨v5, σ6, k, h⟩ := bnd_s h
        refine x_callV1 (pc := 75) C (mX8_isFlown E l k) cl6 k2 cX8_345 nX8_isFlown sX8_isFlown rfl rfl (Nat.le_of_ble_eq_true rfl) ⟨Nat.le_of_ble_eq_true rfl, Nat.le_of_ble_eq_true rfl, Nat.le_of_ble_eq_true rfl, Nat.le_of_ble_eq_true rfl⟩ dX8_may_75 ?_
        refine x_if_ne (pc := 78) (tgt := 85) C dX8_may_78 (by decide) (fun q => ?_) (fun q => ?_)
        · rw [if_pos q] at h
          refine x_iconst (v := 1) (pc := 81) C dX8_may_81 (by decide) ?_
          refine x_goto (tgt := 86) (pc := 82) C dX8_may_82 (by decide) ?_
          exact x_sub (tX8_may_86 C hr ih h) (xLe_s (xLe_s (xLe_s (xLe_s (xLe_s (xLe_n xLe_0))))))
        · rw [if_neg q] at h
          refine x_iconst (v := 0) (pc := 85) C dX8_may_85 (by decide) ?_
          exact x_sub (tX8_may_86 C hr ih h) (xLe_s (xLe_s (xLe_s (xLe_s (xLe_s (xLe_n xLe_0))))))
def DX8_may (l0 : Nat) (l1 : Int32) (l2 : Int32) (σ : Sg) : Option (Int32 × Sg) :=
  chk (ckO σ 6 l0) <|
  wlet (pI σ l0 0 (0 : Int32)) fun σ1 =>
  chk (ckO σ1 6 l0) <|
  bnd (DX8_isTicket l0 l1 σ1) fun v2 σ3 =>
  if v2 = 0 then
    DX8_may_22 σ3
  else
    if l2 < 0 then
      DX8_may_22 σ3
    else
      if l2 ≤ (1 : Int32) then
        chk (ckO σ3 6 l0) <|
        bnd (DX8_isRefunded l0 l1 σ3) fun v4 σ5 =>
        if v4 = 0 then
          DX8_may_39 FU l0 l1 l2 (0 : Int32) (0 : Int32) σ5
        else
          some ((0 : Int32), σ5)
      else
        DX8_may_22 σ3
theorem mX8_may (E : Ev) (l : Launch) {l0 : Nat} {l1 : Int32} {l2 : Int32} {σ : Sg} {r : Int32} {σ' : Sg} (h : DX8_may l0 l1 l2 σ = some (r, σ')) : Mt E l yX8_may cX8_may 6 (some .int) 3 0 0 [.ref (ad E l0), .int l1, .int l2] σ (some (.int r)) σ' := by
  refine Mt.ofX (by decide) (Nat.le_of_ble_eq_true rfl) (L0 := [some (.ref (ad E l0)), some (.int l1), some (.int l2), none, none, none]) (xEntN_ok [.ref (ad E l0), .int l1, .int l2] 6) (fun p e s m args below meth c C hr hn => ?_)
  unfold DX8_may at h
  refine x_aload_n (pc := 0) C dX8_may_0 rfl rfl ?_
  refine x_iconst (v := 0) (pc := 1) C dX8_may_1 (by decide) ?_
  obtain ⟨k, h⟩ := chk_s h
  obtain ⟨σ1, e1, h⟩ := wlet_s h
  refine x_putI (pc := 2) C pX8_112 rfl k dX8_may_2 (x_eq e1 ?_)
  refine x_aload_n (pc := 5) C dX8_may_5 rfl rfl ?_
  refine x_iload_n (pc := 6) C dX8_may_6 rfl rfl ?_
  obtain ⟨k, h⟩ := chk_s h
  have k2 := k
  obtain ⟨v2, σ3, k, h⟩ := bnd_s h
  refine x_callV1 (pc := 7) C (mX8_isTicket E l k) cl6 k2 cX8_298 nX8_isTicket sX8_isTicket rfl rfl (Nat.le_of_ble_eq_true rfl) ⟨Nat.le_of_ble_eq_true rfl, Nat.le_of_ble_eq_true rfl, Nat.le_of_ble_eq_true rfl, Nat.le_of_ble_eq_true rfl⟩ dX8_may_7 ?_
  refine x_if_eq (pc := 10) (tgt := 22) C dX8_may_10 (by decide) (fun q => ?_) (fun q => ?_)
  · rw [if_pos q] at h
    exact x_sub (tX8_may_22 C hr h) (xLe_n (xLe_n (xLe_n (xLe_n (xLe_n (xLe_n xLe_0))))))
  · rw [if_neg q] at h
    refine x_iload_n (pc := 13) C dX8_may_13 rfl rfl ?_
    refine x_if_lt (pc := 14) (tgt := 22) C dX8_may_14 (by decide) (fun q => ?_) (fun q => ?_)
    · rw [if_pos q] at h
      exact x_sub (tX8_may_22 C hr h) (xLe_n (xLe_n (xLe_n (xLe_n (xLe_n (xLe_n xLe_0))))))
    · rw [if_neg q] at h
      refine x_iload_n (pc := 17) C dX8_may_17 rfl rfl ?_
      refine x_iconst (v := 1) (pc := 18) C dX8_may_18 (by decide) ?_
      refine x_icmp_le (pc := 19) (tgt := 24) C dX8_may_19 (by decide) (fun q => ?_) (fun q => ?_)
      · rw [if_pos q] at h
        refine x_aload_n (pc := 24) C dX8_may_24 rfl rfl ?_
        refine x_iload_n (pc := 25) C dX8_may_25 rfl rfl ?_
        obtain ⟨k, h⟩ := chk_s h
        have k2 := k
        obtain ⟨v4, σ5, k, h⟩ := bnd_s h
        refine x_callV1 (pc := 26) C (mX8_isRefunded E l k) cl6 k2 cX8_404 nX8_isRefunded sX8_isRefunded rfl rfl (Nat.le_of_ble_eq_true rfl) ⟨Nat.le_of_ble_eq_true rfl, Nat.le_of_ble_eq_true rfl, Nat.le_of_ble_eq_true rfl, Nat.le_of_ble_eq_true rfl⟩ dX8_may_26 ?_
        refine x_if_eq (pc := 29) (tgt := 34) C dX8_may_29 (by decide) (fun q => ?_) (fun q => ?_)
        · rw [if_pos q] at h
          refine x_iconst (v := 0) (pc := 34) C dX8_may_34 (by decide) ?_
          refine x_istore_n (M := [some _, some _, some _, some _, none, none]) (pc := 35) C dX8_may_35 rfl (by decide) rfl ?_
          refine x_iconst (v := 0) (pc := 36) C dX8_may_36 (by decide) ?_
          refine x_istore (M := [some _, some _, some _, some _, some _, none]) (pc := 37) C dX8_may_37 (by decide) rfl ?_
          exact x_sub (tX8_may_39 C hr FU _ _ _ _ _ _ h) (xLe_s (xLe_s (xLe_s (xLe_s (xLe_s (xLe_n xLe_0))))))
        · rw [if_neg q] at h
          refine x_iconst (v := 0) (pc := 32) C dX8_may_32 (by decide) ?_
          cases h
          exact x_iret C hr dX8_may_33
      · rw [if_neg q] at h
        exact x_sub (tX8_may_22 C hr h) (xLe_n (xLe_n (xLe_n (xLe_n (xLe_n (xLe_n xLe_0))))))
def DX8_money_14 (σ : Sg) : Option (Int32 × Sg) :=
  some ((-1 : Int32), σ)
theorem tX8_money_14 {r : Int32} {σ' : Sg} (C : Cx E p s m args meth c RX8 cX8_money 4) (hr : meth.sig.returnType = (some .int)) {σ : Sg} (h : DX8_money_14  σ = some (r, σ')) : Y E p l e (rmA 8 0 0) s m args below meth c (some (.int r)) σ' 0 0 4 0 0 σ 14 [none, none, none, none] [] := by
  unfold DX8_money_14 at h
  refine x_iconst (v := -1) (pc := 14) C dX8_money_14 (by decide) ?_
  cases h
  exact x_iret C hr dX8_money_15
def DX8_money_111 (K30 : Nat → Int32 → Int32 → Int32 → Sg → Option (Int32 × Sg)) (l0 : Nat) (l1 : Int32) (l2 : Int32) (l3 : Int32) (σ : Sg) : Option (Int32 × Sg) :=
  K30 l0 l1 l2 (l3 + (1 : Int32)) σ
theorem tX8_money_111 {r : Int32} {σ' : Sg} (C : Cx E p s m args meth c RX8 cX8_money 4) (hr : meth.sig.returnType = (some .int)) {K30 : Nat → Int32 → Int32 → Int32 → Sg → Option (Int32 × Sg)} (hK30 : ∀ (l0 : Nat) (l1 : Int32) (l2 : Int32) (l3 : Int32) (σ : Sg), K30 l0 l1 l2 l3 σ = some (r, σ') → Y E p l e (rmA 8 0 0) s m args below meth c (some (.int r)) σ' 0 0 4 0 0 σ 30 [some (.ref (ad E l0)), some (.int l1), some (.int l2), some (.int l3)] []) {l0 : Nat} {l1 : Int32} {l2 : Int32} {l3 : Int32} {σ : Sg} (h : DX8_money_111 K30 l0 l1 l2 l3 σ = some (r, σ')) : Y E p l e (rmA 8 0 0) s m args below meth c (some (.int r)) σ' 0 0 4 0 0 σ 111 [some (.ref (ad E l0)), some (.int l1), some (.int l2), some (.int l3)] [] := by
  unfold DX8_money_111 at h
  refine x_iinc (v := 1) (M := [some _, some _, some _, some _]) (pc := 111) C dX8_money_111 rfl (by decide) (by decide) rfl ?_
  refine x_goto (tgt := 30) (pc := 114) C dX8_money_114 (by decide) ?_
  exact x_sub (hK30 _ _ _ _ _ h) (xLe_s (xLe_s (xLe_s (xLe_s xLe_0))))
def DX8_money_109 (K30 : Nat → Int32 → Int32 → Int32 → Sg → Option (Int32 × Sg)) (l0 : Nat) (l1 : Int32) (l3 : Int32) (s0 : Int32) (s1 : Int32) (σ : Sg) : Option (Int32 × Sg) :=
  DX8_money_111 K30 l0 l1 (s0 + s1) l3 σ
theorem tX8_money_109 {r : Int32} {σ' : Sg} (C : Cx E p s m args meth c RX8 cX8_money 4) (hr : meth.sig.returnType = (some .int)) {K30 : Nat → Int32 → Int32 → Int32 → Sg → Option (Int32 × Sg)} (hK30 : ∀ (l0 : Nat) (l1 : Int32) (l2 : Int32) (l3 : Int32) (σ : Sg), K30 l0 l1 l2 l3 σ = some (r, σ') → Y E p l e (rmA 8 0 0) s m args below meth c (some (.int r)) σ' 0 0 4 0 0 σ 30 [some (.ref (ad E l0)), some (.int l1), some (.int l2), some (.int l3)] []) {l0 : Nat} {l1 : Int32} {l3 : Int32} {s0 : Int32} {s1 : Int32} {σ : Sg} (h : DX8_money_109 K30 l0 l1 l3 s0 s1 σ = some (r, σ')) : Y E p l e (rmA 8 0 0) s m args below meth c (some (.int r)) σ' 0 0 4 0 0 σ 109 [some (.ref (ad E l0)), some (.int l1), none, some (.int l3)] [.int s1, .int s0] := by
  unfold DX8_money_109 at h
  refine x_iadd (pc := 109) C dX8_money_109 ?_
  refine x_istore_n (M := [some _, some _, some _, some _]) (pc := 110) C dX8_money_110 rfl (by decide) rfl ?_
  exact x_sub (tX8_money_111 C hr hK30 h) (xLe_s (xLe_s (xLe_s (xLe_s xLe_0))))
def DX8_money_97 (K30 : Nat → Int32 → Int32 → Int32 → Sg → Option (Int32 × Sg)) (l0 : Nat) (l1 : Int32) (l3 : Int32) (s0 : Int32) (s1 : Int32) (s2 : Int32) (σ : Sg) : Option (Int32 × Sg) :=
  if s1 = s2 then
    chk (ckO σ 6 l0) <|
    bnd (DX8_leftOf l0 l3 σ) fun v1 σ2 =>
    DX8_money_109 K30 l0 l1 l3 s0 v1 σ2
  else
    DX8_money_109 K30 l0 l1 l3 s0 (0 : Int32) σ
theorem tX8_money_97 {r : Int32} {σ' : Sg} (C : Cx E p s m args meth c RX8 cX8_money 4) (hr : meth.sig.returnType = (some .int)) {K30 : Nat → Int32 → Int32 → Int32 → Sg → Option (Int32 × Sg)} (hK30 : ∀ (l0 : Nat) (l1 : Int32) (l2 : Int32) (l3 : Int32) (σ : Sg), K30 l0 l1 l2 l3 σ = some (r, σ') → Y E p l e (rmA 8 0 0) s m args below meth c (some (.int r)) σ' 0 0 4 0 0 σ 30 [some (.ref (ad E l0)), some (.int l1), some (.int l2), some (.int l3)] []) {l0 : Nat} {l1 : Int32} {l3 : Int32} {s0 : Int32} {s1 : Int32} {s2 : Int32} {σ : Sg} (h : DX8_money_97 K30 l0 l1 l3 s0 s1 s2 σ = some (r, σ')) : Y E p l e (rmA 8 0 0) s m args below meth c (some (.int r)) σ' 0 0 4 0 0 σ 97 [some (.ref (ad E l0)), some (.int l1), none, some (.int l3)] [.int s2, .int s1, .int s0] := by
  unfold DX8_money_97 at h
  refine x_icmp_ne (pc := 97) (tgt := 108) C dX8_money_97 (by decide) (fun q => ?_) (fun q => ?_)
  · rw [if_pos q] at h
    refine x_aload_n (pc := 100) C dX8_money_100 rfl rfl ?_
    refine x_iload_n (pc := 101) C dX8_money_101 rfl rfl ?_
    obtain ⟨k, h⟩ := chk_s h
    have k2 := k
    obtain ⟨v1, σ2, k, h⟩ := bnd_s h
    refine x_callV1 (pc := 102) C (mX8_leftOf E l k) cl6 k2 cX8_416 nX8_leftOf sX8_leftOf rfl rfl (Nat.le_of_ble_eq_true rfl) ⟨Nat.le_of_ble_eq_true rfl, Nat.le_of_ble_eq_true rfl, Nat.le_of_ble_eq_true rfl, Nat.le_of_ble_eq_true rfl⟩ dX8_money_102 ?_
    refine x_goto (tgt := 109) (pc := 105) C dX8_money_105 (by decide) ?_
    exact x_sub (tX8_money_109 C hr hK30 h) (xLe_s (xLe_s (xLe_n (xLe_s xLe_0))))
  · rw [if_neg q] at h
    refine x_iconst (v := 0) (pc := 108) C dX8_money_108 (by decide) ?_
    exact x_sub (tX8_money_109 C hr hK30 h) (xLe_s (xLe_s (xLe_n (xLe_s xLe_0))))
def DX8_money_117 (l2 : Int32) (σ : Sg) : Option (Int32 × Sg) :=
  some (l2, σ)
theorem tX8_money_117 {r : Int32} {σ' : Sg} (C : Cx E p s m args meth c RX8 cX8_money 4) (hr : meth.sig.returnType = (some .int)) {l2 : Int32} {σ : Sg} (h : DX8_money_117 l2 σ = some (r, σ')) : Y E p l e (rmA 8 0 0) s m args below meth c (some (.int r)) σ' 0 0 4 0 0 σ 117 [none, none, some (.int l2), none] [] := by
  unfold DX8_money_117 at h
  refine x_iload_n (pc := 117) C dX8_money_117 rfl rfl ?_
  cases h
  exact x_iret C hr dX8_money_118
def DX8_money_30 : Nat → Nat → Int32 → Int32 → Int32 → Sg → Option (Int32 × Sg)
  | 0, _, _, _, _, _ => none
  | n + 1, l0, l1, l2, l3, σ =>
    chk (ckO σ 6 l0) <|
    if (gI σ l0 9) ≤ l3 then
      DX8_money_117 l2 σ
    else
      if l1 = 0 then
        chk (ckO σ 6 l0) <|
        chk (ckV (gR σ l0 16)) <|
        chk (ckI σ (gR σ l0 16) ((4 : Int32) * l3)) <|
        DX8_money_111 (DX8_money_30 n) l0 l1 (l2 + (aI σ (gR σ l0 16) ((4 : Int32) * l3).toNatClampNeg)) l3 σ
      else
        if l1 = (1 : Int32) then
          chk (ckO σ 6 l0) <|
          chk (ckV (gR σ l0 16)) <|
          chk (ckI σ (gR σ l0 16) ((4 : Int32) * l3)) <|
          chk (ckO σ 6 l0) <|
          bnd (DX8_leftOf l0 l3 σ) fun v1 σ2 =>
          DX8_money_111 (DX8_money_30 n) l0 l1 (l2 + ((aI σ (gR σ l0 16) ((4 : Int32) * l3).toNatClampNeg) - v1)) l3 σ2
        else
          chk (ckO σ 6 l0) <|
          bnd (DX8_isRefunded l0 l3 σ) fun v3 σ4 =>
          if l1 = (3 : Int32) then
            DX8_money_97 (DX8_money_30 n) l0 l1 l3 l2 v3 (1 : Int32) σ4
          else
            DX8_money_97 (DX8_money_30 n) l0 l1 l3 l2 v3 (0 : Int32) σ4
theorem tX8_money_30 {r : Int32} {σ' : Sg} (C : Cx E p s m args meth c RX8 cX8_money 4) (hr : meth.sig.returnType = (some .int)) : ∀ (n : Nat) (l0 : Nat) (l1 : Int32) (l2 : Int32) (l3 : Int32) (σ : Sg) (h : DX8_money_30 n l0 l1 l2 l3 σ = some (r, σ')), Y E p l e (rmA 8 0 0) s m args below meth c (some (.int r)) σ' 0 0 4 0 0 σ 30 [some (.ref (ad E l0)), some (.int l1), some (.int l2), some (.int l3)] [] := by
  intro n
  induction n with
  | zero => intro l0 l1 l2 l3 σ h; cases h
  | succ n ih =>
    intro l0 l1 l2 l3 σ h
    unfold DX8_money_30 at h
    refine x_iload_n (pc := 30) C dX8_money_30 rfl rfl ?_
    refine x_aload_n (pc := 31) C dX8_money_31 rfl rfl ?_
    obtain ⟨k, h⟩ := chk_s h
    refine x_getI (pc := 32) C fX8_192 rfl k dX8_money_32 ?_
    refine x_icmp_ge (pc := 35) (tgt := 117) C dX8_money_35 (by decide) (fun q => ?_) (fun q => ?_)
    · rw [if_pos q] at h
      exact x_sub (tX8_money_117 C hr h) (xLe_n (xLe_n (xLe_s (xLe_n xLe_0))))
    · rw [if_neg q] at h
      refine x_iload_n (pc := 38) C dX8_money_38 rfl rfl ?_
      refine x_if_ne (pc := 39) (tgt := 56) C dX8_money_39 (by decide) (fun q => ?_) (fun q => ?_)
      · rw [if_pos q] at h
        refine x_iload_n (pc := 42) C dX8_money_42 rfl rfl ?_
        refine x_aload_n (pc := 43) C dX8_money_43 rfl rfl ?_
        obtain ⟨k, h⟩ := chk_s h
        have k2 := k
        obtain ⟨k, h⟩ := chk_s h
        refine x_getR (pc := 44) C fX8_25 rfl k2 k dX8_money_44 ?_
        refine x_iconst (v := 4) (pc := 47) C dX8_money_47 (by decide) ?_
        refine x_iload_n (pc := 48) C dX8_money_48 rfl rfl ?_
        refine x_imul (pc := 49) C dX8_money_49 ?_
        obtain ⟨k, h⟩ := chk_s h
        refine x_iald (pc := 50) C k dX8_money_50 ?_
        refine x_iadd (pc := 51) C dX8_money_51 ?_
        refine x_istore_n (M := [some _, some _, some _, some _]) (pc := 52) C dX8_money_52 rfl (by decide) rfl ?_
        refine x_goto (tgt := 111) (pc := 53) C dX8_money_53 (by decide) ?_
        exact x_sub (tX8_money_111 C hr ih h) (xLe_s (xLe_s (xLe_s (xLe_s xLe_0))))
      · rw [if_neg q] at h
        refine x_iload_n (pc := 56) C dX8_money_56 rfl rfl ?_
        refine x_iconst (v := 1) (pc := 57) C dX8_money_57 (by decide) ?_
        refine x_icmp_ne (pc := 58) (tgt := 81) C dX8_money_58 (by decide) (fun q => ?_) (fun q => ?_)
        · rw [if_pos q] at h
          refine x_iload_n (pc := 61) C dX8_money_61 rfl rfl ?_
          refine x_aload_n (pc := 62) C dX8_money_62 rfl rfl ?_
          obtain ⟨k, h⟩ := chk_s h
          have k2 := k
          obtain ⟨k, h⟩ := chk_s h
          refine x_getR (pc := 63) C fX8_25 rfl k2 k dX8_money_63 ?_
          refine x_iconst (v := 4) (pc := 66) C dX8_money_66 (by decide) ?_
          refine x_iload_n (pc := 67) C dX8_money_67 rfl rfl ?_
          refine x_imul (pc := 68) C dX8_money_68 ?_
          obtain ⟨k, h⟩ := chk_s h
          refine x_iald (pc := 69) C k dX8_money_69 ?_
          refine x_aload_n (pc := 70) C dX8_money_70 rfl rfl ?_
          refine x_iload_n (pc := 71) C dX8_money_71 rfl rfl ?_
          obtain ⟨k, h⟩ := chk_s h
          have k2 := k
          obtain ⟨v1, σ2, k, h⟩ := bnd_s h
          refine x_callV1 (pc := 72) C (mX8_leftOf E l k) cl6 k2 cX8_416 nX8_leftOf sX8_leftOf rfl rfl (Nat.le_of_ble_eq_true rfl) ⟨Nat.le_of_ble_eq_true rfl, Nat.le_of_ble_eq_true rfl, Nat.le_of_ble_eq_true rfl, Nat.le_of_ble_eq_true rfl⟩ dX8_money_72 ?_
          refine x_isub (pc := 75) C dX8_money_75 ?_
          refine x_iadd (pc := 76) C dX8_money_76 ?_
          refine x_istore_n (M := [some _, some _, some _, some _]) (pc := 77) C dX8_money_77 rfl (by decide) rfl ?_
          refine x_goto (tgt := 111) (pc := 78) C dX8_money_78 (by decide) ?_
          exact x_sub (tX8_money_111 C hr ih h) (xLe_s (xLe_s (xLe_s (xLe_s xLe_0))))
        · rw [if_neg q] at h
          refine x_iload_n (pc := 81) C dX8_money_81 rfl rfl ?_
          refine x_aload_n (pc := 82) C dX8_money_82 rfl rfl ?_
          refine x_iload_n (pc := 83) C dX8_money_83 rfl rfl ?_
          obtain ⟨k, h⟩ := chk_s h
          have k2 := k
          obtain ⟨v3, σ4, k, h⟩ := bnd_s h
          refine x_callV1 (pc := 84) C (mX8_isRefunded E l k) cl6 k2 cX8_404 nX8_isRefunded sX8_isRefunded rfl rfl (Nat.le_of_ble_eq_true rfl) ⟨Nat.le_of_ble_eq_true rfl, Nat.le_of_ble_eq_true rfl, Nat.le_of_ble_eq_true rfl, Nat.le_of_ble_eq_true rfl⟩ dX8_money_84 ?_
          refine x_iload_n (pc := 87) C dX8_money_87 rfl rfl ?_
          refine x_iconst (v := 3) (pc := 88) C dX8_money_88 (by decide) ?_
          refine x_icmp_ne (pc := 89) (tgt := 96) C dX8_money_89 (by decide) (fun q => ?_) (fun q => ?_)
          · rw [if_pos q] at h
            refine x_iconst (v := 1) (pc := 92) C dX8_money_92 (by decide) ?_
            refine x_goto (tgt := 97) (pc := 93) C dX8_money_93 (by decide) ?_
            exact x_sub (tX8_money_97 C hr ih h) (xLe_s (xLe_s (xLe_n (xLe_s xLe_0))))
          · rw [if_neg q] at h
            refine x_iconst (v := 0) (pc := 96) C dX8_money_96 (by decide) ?_
            exact x_sub (tX8_money_97 C hr ih h) (xLe_s (xLe_s (xLe_n (xLe_s xLe_0))))
def DX8_money (l0 : Nat) (l1 : Int32) (σ : Sg) : Option (Int32 × Sg) :=
  chk (ckO σ 6 l0) <|
  wlet (pI σ l0 0 (0 : Int32)) fun σ1 =>
  if l1 < 0 then
    DX8_money_14 σ1
  else
    if l1 ≤ (4 : Int32) then
      if l1 = (4 : Int32) then
        chk (ckO σ1 6 l0) <|
        bnd (DX8_billed l0 σ1) fun v2 σ3 =>
        some (v2, σ3)
      else
        DX8_money_30 FU l0 l1 (0 : Int32) (0 : Int32) σ1
    else
      DX8_money_14 σ1
theorem mX8_money (E : Ev) (l : Launch) {l0 : Nat} {l1 : Int32} {σ : Sg} {r : Int32} {σ' : Sg} (h : DX8_money l0 l1 σ = some (r, σ')) : Mt E l yX8_money cX8_money 4 (some .int) 8 0 0 [.ref (ad E l0), .int l1] σ (some (.int r)) σ' := by
  refine Mt.ofX (by decide) (Nat.le_of_ble_eq_true rfl) (L0 := [some (.ref (ad E l0)), some (.int l1), none, none]) (xEntN_ok [.ref (ad E l0), .int l1] 4) (fun p e s m args below meth c C hr hn => ?_)
  unfold DX8_money at h
  refine x_aload_n (pc := 0) C dX8_money_0 rfl rfl ?_
  refine x_iconst (v := 0) (pc := 1) C dX8_money_1 (by decide) ?_
  obtain ⟨k, h⟩ := chk_s h
  obtain ⟨σ1, e1, h⟩ := wlet_s h
  refine x_putI (pc := 2) C pX8_112 rfl k dX8_money_2 (x_eq e1 ?_)
  refine x_iload_n (pc := 5) C dX8_money_5 rfl rfl ?_
  refine x_if_lt (pc := 6) (tgt := 14) C dX8_money_6 (by decide) (fun q => ?_) (fun q => ?_)
  · rw [if_pos q] at h
    exact x_sub (tX8_money_14 C hr h) (xLe_n (xLe_n (xLe_n (xLe_n xLe_0))))
  · rw [if_neg q] at h
    refine x_iload_n (pc := 9) C dX8_money_9 rfl rfl ?_
    refine x_iconst (v := 4) (pc := 10) C dX8_money_10 (by decide) ?_
    refine x_icmp_le (pc := 11) (tgt := 16) C dX8_money_11 (by decide) (fun q => ?_) (fun q => ?_)
    · rw [if_pos q] at h
      refine x_iload_n (pc := 16) C dX8_money_16 rfl rfl ?_
      refine x_iconst (v := 4) (pc := 17) C dX8_money_17 (by decide) ?_
      refine x_icmp_ne (pc := 18) (tgt := 26) C dX8_money_18 (by decide) (fun q => ?_) (fun q => ?_)
      · rw [if_pos q] at h
        refine x_aload_n (pc := 21) C dX8_money_21 rfl rfl ?_
        obtain ⟨k, h⟩ := chk_s h
        have k2 := k
        obtain ⟨v2, σ3, k, h⟩ := bnd_s h
        refine x_callV1 (pc := 22) C (mX8_billed E l k) cl6 k2 cX8_425 nX8_billed sX8_billed rfl rfl (Nat.le_of_ble_eq_true rfl) ⟨Nat.le_of_ble_eq_true rfl, Nat.le_of_ble_eq_true rfl, Nat.le_of_ble_eq_true rfl, Nat.le_of_ble_eq_true rfl⟩ dX8_money_22 ?_
        cases h
        exact x_iret C hr dX8_money_25
      · rw [if_neg q] at h
        refine x_iconst (v := 0) (pc := 26) C dX8_money_26 (by decide) ?_
        refine x_istore_n (M := [some _, some _, some _, none]) (pc := 27) C dX8_money_27 rfl (by decide) rfl ?_
        refine x_iconst (v := 0) (pc := 28) C dX8_money_28 (by decide) ?_
        refine x_istore_n (M := [some _, some _, some _, some _]) (pc := 29) C dX8_money_29 rfl (by decide) rfl ?_
        exact x_sub (tX8_money_30 C hr FU _ _ _ _ _ h) (xLe_s (xLe_s (xLe_s (xLe_s xLe_0))))
    · rw [if_neg q] at h
      exact x_sub (tX8_money_14 C hr h) (xLe_n (xLe_n (xLe_n (xLe_n xLe_0))))
def DX8_count (l0 : Nat) (l1 : Int32) (σ : Sg) : Option (Int32 × Sg) :=
  chk (ckO σ 6 l0) <|
  wlet (pI σ l0 0 (0 : Int32)) fun σ1 =>
  if l1 = 0 then
    chk (ckO σ1 6 l0) <|
    some ((gI σ1 l0 11), σ1)
  else
    if l1 = 1 then
      chk (ckO σ1 6 l0) <|
      some ((gI σ1 l0 3), σ1)
    else
      if l1 = 2 then
        chk (ckO σ1 6 l0) <|
        some ((gI σ1 l0 4), σ1)
      else
        if l1 = 3 then
          chk (ckO σ1 6 l0) <|
          some ((gI σ1 l0 5), σ1)
        else
          if l1 = 4 then
            chk (ckO σ1 6 l0) <|
            some ((gI σ1 l0 6), σ1)
          else
            if l1 = 5 then
              chk (ckO σ1 6 l0) <|
              some ((gI σ1 l0 7), σ1)
            else
              if l1 = 6 then
                chk (ckO σ1 6 l0) <|
                some ((gI σ1 l0 8), σ1)
              else
                if l1 = 7 then
                  chk (ckO σ1 6 l0) <|
                  some ((gI σ1 l0 10), σ1)
                else
                  if l1 = 8 then
                    chk (ckO σ1 6 l0) <|
                    some ((gI σ1 l0 9), σ1)
                  else
                    if l1 = 9 then
                      chk (ckO σ1 6 l0) <|
                      some ((gI σ1 l0 22), σ1)
                    else
                      if l1 = 10 then
                        chk (ckO σ1 6 l0) <|
                        some ((gI σ1 l0 2), σ1)
                      else
                        some ((-1 : Int32), σ1)
theorem mX8_count (E : Ev) (l : Launch) {l0 : Nat} {l1 : Int32} {σ : Sg} {r : Int32} {σ' : Sg} (h : DX8_count l0 l1 σ = some (r, σ')) : Mt E l yX8_count cX8_count 2 (some .int) 1 0 0 [.ref (ad E l0), .int l1] σ (some (.int r)) σ' := by
  refine Mt.ofX (by decide) (Nat.le_of_ble_eq_true rfl) (L0 := [some (.ref (ad E l0)), some (.int l1)]) (xEntN_ok [.ref (ad E l0), .int l1] 2) (fun p e s m args below meth c C hr hn => ?_)
  unfold DX8_count at h
  refine x_aload_n (pc := 0) C dX8_count_0 rfl rfl ?_
  refine x_iconst (v := 0) (pc := 1) C dX8_count_1 (by decide) ?_
  obtain ⟨k, h⟩ := chk_s h
  obtain ⟨σ1, e1, h⟩ := wlet_s h
  refine x_putI (pc := 2) C pX8_112 rfl k dX8_count_2 (x_eq e1 ?_)
  refine x_iload_n (pc := 5) C dX8_count_5 rfl rfl ?_
  refine br_em (c := l1 = 0) (fun q0 => ?_) (fun q0 => ?_)
  · rw [if_pos q0] at h
    refine x_switchIn (pc := 6) (tgt := 64) C dX8_count_6 (by rw [q0]; decide) (by rw [q0]; decide) (o := 58) (by rw [q0]; rfl) (by decide) ?_
    refine x_aload_n (pc := 64) C dX8_count_64 rfl rfl ?_
    obtain ⟨k, h⟩ := chk_s h
    refine x_getI (pc := 65) C fX8_270 rfl k dX8_count_65 ?_
    cases h
    exact x_iret C hr dX8_count_68
  · rw [if_neg q0] at h
    refine br_em (c := l1 = 1) (fun q1 => ?_) (fun q1 => ?_)
    · rw [if_pos q1] at h
      refine x_switchIn (pc := 6) (tgt := 69) C dX8_count_6 (by rw [q1]; decide) (by rw [q1]; decide) (o := 63) (by rw [q1]; rfl) (by decide) ?_
      refine x_aload_n (pc := 69) C dX8_count_69 rfl rfl ?_
      obtain ⟨k, h⟩ := chk_s h
      refine x_getI (pc := 70) C fX8_182 rfl k dX8_count_70 ?_
      cases h
      exact x_iret C hr dX8_count_73
    · rw [if_neg q1] at h
      refine br_em (c := l1 = 2) (fun q2 => ?_) (fun q2 => ?_)
      · rw [if_pos q2] at h
        refine x_switchIn (pc := 6) (tgt := 74) C dX8_count_6 (by rw [q2]; decide) (by rw [q2]; decide) (o := 68) (by rw [q2]; rfl) (by decide) ?_
        refine x_aload_n (pc := 74) C dX8_count_74 rfl rfl ?_
        obtain ⟨k, h⟩ := chk_s h
        refine x_getI (pc := 75) C fX8_189 rfl k dX8_count_75 ?_
        cases h
        exact x_iret C hr dX8_count_78
      · rw [if_neg q2] at h
        refine br_em (c := l1 = 3) (fun q3 => ?_) (fun q3 => ?_)
        · rw [if_pos q3] at h
          refine x_switchIn (pc := 6) (tgt := 79) C dX8_count_6 (by rw [q3]; decide) (by rw [q3]; decide) (o := 73) (by rw [q3]; rfl) (by decide) ?_
          refine x_aload_n (pc := 79) C dX8_count_79 rfl rfl ?_
          obtain ⟨k, h⟩ := chk_s h
          refine x_getI (pc := 80) C fX8_199 rfl k dX8_count_80 ?_
          cases h
          exact x_iret C hr dX8_count_83
        · rw [if_neg q3] at h
          refine br_em (c := l1 = 4) (fun q4 => ?_) (fun q4 => ?_)
          · rw [if_pos q4] at h
            refine x_switchIn (pc := 6) (tgt := 84) C dX8_count_6 (by rw [q4]; decide) (by rw [q4]; decide) (o := 78) (by rw [q4]; rfl) (by decide) ?_
            refine x_aload_n (pc := 84) C dX8_count_84 rfl rfl ?_
            obtain ⟨k, h⟩ := chk_s h
            refine x_getI (pc := 85) C fX8_220 rfl k dX8_count_85 ?_
            cases h
            exact x_iret C hr dX8_count_88
          · rw [if_neg q4] at h
            refine br_em (c := l1 = 5) (fun q5 => ?_) (fun q5 => ?_)
            · rw [if_pos q5] at h
              refine x_switchIn (pc := 6) (tgt := 89) C dX8_count_6 (by rw [q5]; decide) (by rw [q5]; decide) (o := 83) (by rw [q5]; rfl) (by decide) ?_
              refine x_aload_n (pc := 89) C dX8_count_89 rfl rfl ?_
              obtain ⟨k, h⟩ := chk_s h
              refine x_getI (pc := 90) C fX8_223 rfl k dX8_count_90 ?_
              cases h
              exact x_iret C hr dX8_count_93
            · rw [if_neg q5] at h
              refine br_em (c := l1 = 6) (fun q6 => ?_) (fun q6 => ?_)
              · rw [if_pos q6] at h
                refine x_switchIn (pc := 6) (tgt := 94) C dX8_count_6 (by rw [q6]; decide) (by rw [q6]; decide) (o := 88) (by rw [q6]; rfl) (by decide) ?_
                refine x_aload_n (pc := 94) C dX8_count_94 rfl rfl ?_
                obtain ⟨k, h⟩ := chk_s h
                refine x_getI (pc := 95) C fX8_230 rfl k dX8_count_95 ?_
                cases h
                exact x_iret C hr dX8_count_98
              · rw [if_neg q6] at h
                refine br_em (c := l1 = 7) (fun q7 => ?_) (fun q7 => ?_)
                · rw [if_pos q7] at h
                  refine x_switchIn (pc := 6) (tgt := 99) C dX8_count_6 (by rw [q7]; decide) (by rw [q7]; decide) (o := 93) (by rw [q7]; rfl) (by decide) ?_
                  refine x_aload_n (pc := 99) C dX8_count_99 rfl rfl ?_
                  obtain ⟨k, h⟩ := chk_s h
                  refine x_getI (pc := 100) C fX8_106 rfl k dX8_count_100 ?_
                  cases h
                  exact x_iret C hr dX8_count_103
                · rw [if_neg q7] at h
                  refine br_em (c := l1 = 8) (fun q8 => ?_) (fun q8 => ?_)
                  · rw [if_pos q8] at h
                    refine x_switchIn (pc := 6) (tgt := 104) C dX8_count_6 (by rw [q8]; decide) (by rw [q8]; decide) (o := 98) (by rw [q8]; rfl) (by decide) ?_
                    refine x_aload_n (pc := 104) C dX8_count_104 rfl rfl ?_
                    obtain ⟨k, h⟩ := chk_s h
                    refine x_getI (pc := 105) C fX8_192 rfl k dX8_count_105 ?_
                    cases h
                    exact x_iret C hr dX8_count_108
                  · rw [if_neg q8] at h
                    refine br_em (c := l1 = 9) (fun q9 => ?_) (fun q9 => ?_)
                    · rw [if_pos q9] at h
                      refine x_switchIn (pc := 6) (tgt := 109) C dX8_count_6 (by rw [q9]; decide) (by rw [q9]; decide) (o := 103) (by rw [q9]; rfl) (by decide) ?_
                      refine x_aload_n (pc := 109) C dX8_count_109 rfl rfl ?_
                      obtain ⟨k, h⟩ := chk_s h
                      refine x_getI (pc := 110) C fX8_287 rfl k dX8_count_110 ?_
                      cases h
                      exact x_iret C hr dX8_count_113
                    · rw [if_neg q9] at h
                      refine br_em (c := l1 = 10) (fun q10 => ?_) (fun q10 => ?_)
                      · rw [if_pos q10] at h
                        refine x_switchIn (pc := 6) (tgt := 114) C dX8_count_6 (by rw [q10]; decide) (by rw [q10]; decide) (o := 108) (by rw [q10]; rfl) (by decide) ?_
                        refine x_aload_n (pc := 114) C dX8_count_114 rfl rfl ?_
                        obtain ⟨k, h⟩ := chk_s h
                        refine x_getI (pc := 115) C fX8_115 rfl k dX8_count_115 ?_
                        cases h
                        exact x_iret C hr dX8_count_118
                      · rw [if_neg q10] at h
                        have eq0 := sw_ne (k := 0) q0 (by decide)
                        have eq1 := sw_ne (k := 1) q1 (by decide)
                        have eq2 := sw_ne (k := 2) q2 (by decide)
                        have eq3 := sw_ne (k := 3) q3 (by decide)
                        have eq4 := sw_ne (k := 4) q4 (by decide)
                        have eq5 := sw_ne (k := 5) q5 (by decide)
                        have eq6 := sw_ne (k := 6) q6 (by decide)
                        have eq7 := sw_ne (k := 7) q7 (by decide)
                        have eq8 := sw_ne (k := 8) q8 (by decide)
                        have eq9 := sw_ne (k := 9) q9 (by decide)
                        have eq10 := sw_ne (k := 10) q10 (by decide)
                        refine x_switchOut (pc := 6) (tgt := 119) C dX8_count_6 (by omega) (by decide) ?_
                        refine x_iconst (v := -1) (pc := 119) C dX8_count_119 (by decide) ?_
                        cases h
                        exact x_iret C hr dX8_count_120
end

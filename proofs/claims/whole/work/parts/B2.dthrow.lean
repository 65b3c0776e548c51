theorem cX7_152 : cB RX7 152 yX7_timesHeld cX7_timesHeld 5 (some .int) 1 := ⟨Or.inl (tG 1254 (by decide +kernel) rfl), tG 1257 (by decide +kernel) rfl, tG 177 (by decide +kernel) rfl, by decide +kernel, by decide +kernel⟩
theorem nX7_timesHeld : Cond.instanceMethod yX7_timesHeld ∈ tblG := tG 1256 (by decide +kernel) rfl
theorem sX7_timesHeld : Cond.selects yX7_timesHeld.cls yX7_timesHeld yX7_timesHeld ∈ tblG := tG 109 (by decide +kernel) rfl
theorem fX7_155 : fL RX7 155 0 16 := ⟨RX1, TX1, 20, cl0, by decide, Or.inr ⟨RX7, tN 254 (by decide +kernel) rfl⟩, rfl⟩
theorem cX7_172 : cB RX7 172 yX1_howOf cX1_howOf 2 (some .int) 1 := ⟨Or.inr ⟨RX7, tN 1266 (by decide +kernel) rfl⟩, tG 819 (by decide +kernel) rfl, tG 178 (by decide +kernel) rfl, by decide +kernel, by decide +kernel⟩
theorem cX7_185 : cB RX7 185 yX7_milesTogether cX7_milesTogether 4 (some .int) 1 := ⟨Or.inl (tG 1267 (by decide +kernel) rfl), tG 1270 (by decide +kernel) rfl, tG 177 (by decide +kernel) rfl, by decide +kernel, by decide +kernel⟩
theorem nX7_milesTogether : Cond.instanceMethod yX7_milesTogether ∈ tblG := tG 1269 (by decide +kernel) rfl
theorem sX7_milesTogether : Cond.selects yX7_milesTogether.cls yX7_milesTogether yX7_milesTogether ∈ tblG := tG 110 (by decide +kernel) rfl
section
variable {E : Ev} {p : Program} {l : Launch} {e : Env} {s : State} {m : MethodId} {args : Array Value} {below : List Frame} {meth : Method} {c : Code}
def DX7_proviso_28 (σ : Sg) : Option ((Nat × Int32) × Sg) :=
  some ((2, 0), σ)
theorem tX7_proviso_28 {r : (Nat × Int32)} {σ' : Sg} (C : Cx E p s m args meth c RX7 cX7_proviso 3) (hr : HV E l s meth c) {σ : Sg} (h : DX7_proviso_28  σ = some (r, σ')) : YV E p l e (rmA 7 1 6) s m args below meth c r σ' 3 0 0 σ 28 [none, none, none] [] := by
  unfold DX7_proviso_28 at h
  cases h
  exact x_throwE (pc := 28) C hr.2.1 hr.2.2.1 hr.2.1.2.2.2.1 dX7_proviso_28 dX7_proviso_31 dX7_proviso_32 dX7_proviso_34 dX7_proviso_37 hr.2.2.2 ⟨Nat.le_of_ble_eq_true rfl, Nat.le_of_ble_eq_true rfl, Nat.le_of_ble_eq_true rfl, Nat.le_of_ble_eq_true rfl⟩ (fun t ht => ⟨Or.inr ⟨rfl, rfl⟩, ht⟩) ⟨Nat.le_of_ble_eq_true rfl, Nat.le_of_ble_eq_true rfl⟩
def DX7_proviso_63 (s0 : Int32) (σ : Sg) : Option ((Nat × Int32) × Sg) :=
  some ((0, s0), σ)
theorem tX7_proviso_63 {r : (Nat × Int32)} {σ' : Sg} (C : Cx E p s m args meth c RX7 cX7_proviso 3) (hr : HV E l s meth c) {s0 : Int32} {σ : Sg} (h : DX7_proviso_63 s0 σ = some (r, σ')) : YV E p l e (rmA 7 1 6) s m args below meth c r σ' 3 0 0 σ 63 [none, none, none] [.int s0] := by
  unfold DX7_proviso_63 at h
  cases h
  exact x_retV (pc := 63) C hr ⟨Nat.le_of_ble_eq_true rfl, Nat.le_of_ble_eq_true rfl⟩ dX7_proviso_63
def DX7_proviso (l0 : Nat) (l1 : Int32) (l2 : Int32) (σ : Sg) : Option ((Nat × Int32) × Sg) :=
  chk (ckO σ 5 l0) <|
  bnd (DX7_isProviso l0 l1 σ) fun v1 σ2 =>
  if v1 = 0 then
    some ((1, 0), σ2)
  else
    if l2 < 0 then
      DX7_proviso_28 σ2
    else
      if l2 ≤ (6 : Int32) then
        if l2 = (6 : Int32) then
          chk (ckO σ2 5 l0) <|
          bnd (DX7_timesHeld l0 l1 σ2) fun v3 σ4 =>
          DX7_proviso_63 v3 σ4
        else
          chk (ckO σ2 5 l0) <|
          chk (ckV (gR σ2 l0 2)) <|
          chk (ckO σ2 0 (gR σ2 l0 2)) <|
          chk (ckV (gR σ2 (gR σ2 l0 2) 16)) <|
          chk (ckG σ2 (gR σ2 (gR σ2 l0 2) 16) l1) <|
          chk (ckR σ2 (gR σ2 (gR σ2 l0 2) 16) l1.toNatClampNeg l2) <|
          DX7_proviso_63 (aG σ2 (gR σ2 (gR σ2 l0 2) 16) l1.toNatClampNeg l2.toNatClampNeg) σ2
      else
        DX7_proviso_28 σ2
theorem mX7_proviso (E : Ev) (l : Launch) (hf : l.stackTraces = false) {l0 : Nat} {l1 : Int32} {l2 : Int32} {σ : Sg} {r : (Nat × Int32)} {σ' : Sg} (h : DX7_proviso l0 l1 l2 σ = some (r, σ')) : MtV E l yX7_proviso cX7_proviso 3 7 [.ref (ad E l0), .int l1, .int l2] σ r σ' := by
  refine MtV.ofX hf (by decide) (Nat.le_of_ble_eq_true rfl) (L0 := [some (.ref (ad E l0)), some (.int l1), some (.int l2)]) (xEntN_ok [.ref (ad E l0), .int l1, .int l2] 3) (fun p e s m args below meth c C hr => ?_)
  unfold DX7_proviso at h
  refine x_aload_n (pc := 0) C dX7_proviso_0 rfl rfl ?_
  refine x_iload_n (pc := 1) C dX7_proviso_1 rfl rfl ?_
  obtain ⟨k, h⟩ := chk_s h
  have k2 := k
  obtain ⟨v1, σ2, k, h⟩ := bnd_s h
  refine x_callV1 (pc := 2) C (mX7_isProviso E l k) cl5 k2 cX7_137 nX7_isProviso sX7_isProviso rfl rfl (Nat.le_of_ble_eq_true rfl) ⟨Nat.le_of_ble_eq_true rfl, Nat.le_of_ble_eq_true rfl, Nat.le_of_ble_eq_true rfl, Nat.le_of_ble_eq_true rfl⟩ dX7_proviso_2 ?_
  refine x_if_ne (pc := 5) (tgt := 18) C dX7_proviso_5 (by decide) (fun q => ?_) (fun q => ?_)
  · rw [if_pos q] at h
    cases h
    exact x_throwI (pc := 8) C hr.2.1 hr.2.2.1 hr.2.1.2.2.1 dX7_proviso_8 dX7_proviso_11 dX7_proviso_12 dX7_proviso_14 dX7_proviso_17 hr.2.2.2 ⟨Nat.le_of_ble_eq_true rfl, Nat.le_of_ble_eq_true rfl, Nat.le_of_ble_eq_true rfl, Nat.le_of_ble_eq_true rfl⟩ (fun t ht => ⟨Or.inl ⟨rfl, rfl⟩, ht⟩) ⟨Nat.le_of_ble_eq_true rfl, Nat.le_of_ble_eq_true rfl⟩
  · rw [if_neg q] at h
    refine x_iload_n (pc := 18) C dX7_proviso_18 rfl rfl ?_
    refine x_if_lt (pc := 19) (tgt := 28) C dX7_proviso_19 (by decide) (fun q => ?_) (fun q => ?_)
    · rw [if_pos q] at h
      exact x_sub (tX7_proviso_28 C hr h) (xLe_n (xLe_n (xLe_n xLe_0)))
    · rw [if_neg q] at h
      refine x_iload_n (pc := 22) C dX7_proviso_22 rfl rfl ?_
      refine x_bipush (v := 6) (pc := 23) C dX7_proviso_23 (by decide) ?_
      refine x_icmp_le (pc := 25) (tgt := 38) C dX7_proviso_25 (by decide) (fun q => ?_) (fun q => ?_)
      · rw [if_pos q] at h
        refine x_iload_n (pc := 38) C dX7_proviso_38 rfl rfl ?_
        refine x_bipush (v := 6) (pc := 39) C dX7_proviso_39 (by decide) ?_
        refine x_icmp_ne (pc := 41) (tgt := 52) C dX7_proviso_41 (by decide) (fun q => ?_) (fun q => ?_)
        · rw [if_pos q] at h
          refine x_aload_n (pc := 44) C dX7_proviso_44 rfl rfl ?_
          refine x_iload_n (pc := 45) C dX7_proviso_45 rfl rfl ?_
          obtain ⟨k, h⟩ := chk_s h
          have k2 := k
          obtain ⟨v3, σ4, k, h⟩ := bnd_s h
          refine x_callV1 (pc := 46) C (mX7_timesHeld E l k) cl5 k2 cX7_152 nX7_timesHeld sX7_timesHeld rfl rfl (Nat.le_of_ble_eq_true rfl) ⟨Nat.le_of_ble_eq_true rfl, Nat.le_of_ble_eq_true rfl, Nat.le_of_ble_eq_true rfl, Nat.le_of_ble_eq_true rfl⟩ dX7_proviso_46 ?_
          refine x_goto (tgt := 63) (pc := 49) C dX7_proviso_49 (by decide) ?_
          exact x_sub (tX7_proviso_63 C hr h) (xLe_n (xLe_n (xLe_n xLe_0)))
        · rw [if_neg q] at h
          refine x_aload_n (pc := 52) C dX7_proviso_52 rfl rfl ?_
          obtain ⟨k, h⟩ := chk_s h
          have k2 := k
          obtain ⟨k, h⟩ := chk_s h
          refine x_getR (pc := 53) C fX7_20 rfl k2 k dX7_proviso_53 ?_
          obtain ⟨k, h⟩ := chk_s h
          have k2 := k
          obtain ⟨k, h⟩ := chk_s h
          refine x_getR (pc := 56) C fX7_155 rfl k2 k dX7_proviso_56 ?_
          refine x_iload_n (pc := 59) C dX7_proviso_59 rfl rfl ?_
          obtain ⟨k, h⟩ := chk_s h
          refine x_gald (pc := 60) C k dX7_proviso_60 ?_
          refine x_iload_n (pc := 61) C dX7_proviso_61 rfl rfl ?_
          obtain ⟨k, h⟩ := chk_s h
          refine x_rald (pc := 62) C k dX7_proviso_62 ?_
          exact x_sub (tX7_proviso_63 C hr h) (xLe_n (xLe_n (xLe_n xLe_0)))
      · rw [if_neg q] at h
        exact x_sub (tX7_proviso_28 C hr h) (xLe_n (xLe_n (xLe_n xLe_0)))
def DX7_ticket_128 (s0 : Int32) (σ : Sg) : Option ((Nat × Int32) × Sg) :=
  some ((0, s0), σ)
theorem tX7_ticket_128 {r : (Nat × Int32)} {σ' : Sg} (C : Cx E p s m args meth c RX7 cX7_ticket 3) (hr : HV E l s meth c) {s0 : Int32} {σ : Sg} (h : DX7_ticket_128 s0 σ = some (r, σ')) : YV E p l e (rmA 7 1 6) s m args below meth c r σ' 3 0 0 σ 128 [none, none, none] [.int s0] := by
  unfold DX7_ticket_128 at h
  cases h
  exact x_retV (pc := 128) C hr ⟨Nat.le_of_ble_eq_true rfl, Nat.le_of_ble_eq_true rfl⟩ dX7_ticket_128
def DX7_ticket (l0 : Nat) (l1 : Int32) (l2 : Int32) (σ : Sg) : Option ((Nat × Int32) × Sg) :=
  chk (ckO σ 5 l0) <|
  bnd (DX7_isTicket l0 l1 σ) fun v1 σ2 =>
  if v1 = 0 then
    some ((1, 0), σ2)
  else
    if l2 = 0 then
      chk (ckO σ2 5 l0) <|
      chk (ckV (gR σ2 l0 2)) <|
      chk (ckO σ2 0 (gR σ2 l0 2)) <|
      bnd (DX1_fareOf (gR σ2 l0 2) l1 σ2) fun v3 σ4 =>
      some ((0, v3), σ4)
    else
      if l2 = 1 then
        chk (ckO σ2 5 l0) <|
        chk (ckV (gR σ2 l0 2)) <|
        chk (ckO σ2 0 (gR σ2 l0 2)) <|
        bnd (DX1_howOf (gR σ2 l0 2) l1 σ2) fun v5 σ6 =>
        some ((0, v5), σ6)
      else
        if l2 = 2 then
          chk (ckO σ2 5 l0) <|
          chk (ckV (gR σ2 l0 2)) <|
          chk (ckO σ2 0 (gR σ2 l0 2)) <|
          bnd (DX1_couponsOf (gR σ2 l0 2) l1 σ2) fun v7 σ8 =>
          some ((0, v7), σ8)
        else
          if l2 = 3 then
            chk (ckO σ2 5 l0) <|
            chk (ckV (gR σ2 l0 5)) <|
            chk (ckO σ2 1 (gR σ2 l0 5)) <|
            chk (ckV (gR σ2 (gR σ2 l0 5) 1)) <|
            chk (ckI σ2 (gR σ2 (gR σ2 l0 5) 1) l1) <|
            some ((0, (aI σ2 (gR σ2 (gR σ2 l0 5) 1) l1.toNatClampNeg)), σ2)
          else
            if l2 = 4 then
              chk (ckO σ2 5 l0) <|
              chk (ckV (gR σ2 l0 5)) <|
              chk (ckO σ2 1 (gR σ2 l0 5)) <|
              chk (ckV (gR σ2 (gR σ2 l0 5) 0)) <|
              chk (ckI σ2 (gR σ2 (gR σ2 l0 5) 0) l1) <|
              some ((0, (aI σ2 (gR σ2 (gR σ2 l0 5) 0) l1.toNatClampNeg)), σ2)
            else
              if l2 = 5 then
                chk (ckO σ2 5 l0) <|
                chk (ckV (gR σ2 l0 5)) <|
                chk (ckO σ2 1 (gR σ2 l0 5)) <|
                chk (ckV (gR σ2 (gR σ2 l0 5) 2)) <|
                chk (ckZ σ2 (gR σ2 (gR σ2 l0 5) 2) l1) <|
                if (aI σ2 (gR σ2 (gR σ2 l0 5) 2) l1.toNatClampNeg) = 0 then
                  DX7_ticket_128 (0 : Int32) σ2
                else
                  DX7_ticket_128 (1 : Int32) σ2
              else
                if l2 = 6 then
                  chk (ckO σ2 5 l0) <|
                  bnd (DX7_milesTogether l0 l1 σ2) fun v9 σ10 =>
                  some ((0, v9), σ10)
                else
                  if l2 = 7 then
                    chk (ckO σ2 5 l0) <|
                    bnd (DX7_flownTogether l0 l1 σ2) fun v11 σ12 =>
                    some ((0, v11), σ12)
                  else
                    some ((2, 0), σ2)
theorem mX7_ticket (E : Ev) (l : Launch) (hf : l.stackTraces = false) {l0 : Nat} {l1 : Int32} {l2 : Int32} {σ : Sg} {r : (Nat × Int32)} {σ' : Sg} (h : DX7_ticket l0 l1 l2 σ = some (r, σ')) : MtV E l yX7_ticket cX7_ticket 3 7 [.ref (ad E l0), .int l1, .int l2] σ r σ' := by
  refine MtV.ofX hf (by decide) (Nat.le_of_ble_eq_true rfl) (L0 := [some (.ref (ad E l0)), some (.int l1), some (.int l2)]) (xEntN_ok [.ref (ad E l0), .int l1, .int l2] 3) (fun p e s m args below meth c C hr => ?_)
  unfold DX7_ticket at h
  refine x_aload_n (pc := 0) C dX7_ticket_0 rfl rfl ?_
  refine x_iload_n (pc := 1) C dX7_ticket_1 rfl rfl ?_
  obtain ⟨k, h⟩ := chk_s h
  have k2 := k
  obtain ⟨v1, σ2, k, h⟩ := bnd_s h
  refine x_callV1 (pc := 2) C (mX7_isTicket E l k) cl5 k2 cX7_103 nX7_isTicket sX7_isTicket rfl rfl (Nat.le_of_ble_eq_true rfl) ⟨Nat.le_of_ble_eq_true rfl, Nat.le_of_ble_eq_true rfl, Nat.le_of_ble_eq_true rfl, Nat.le_of_ble_eq_true rfl⟩ dX7_ticket_2 ?_
  refine x_if_ne (pc := 5) (tgt := 18) C dX7_ticket_5 (by decide) (fun q => ?_) (fun q => ?_)
  · rw [if_pos q] at h
    cases h
    exact x_throwI (pc := 8) C hr.2.1 hr.2.2.1 hr.2.1.2.2.2.2.1 dX7_ticket_8 dX7_ticket_11 dX7_ticket_12 dX7_ticket_14 dX7_ticket_17 hr.2.2.2 ⟨Nat.le_of_ble_eq_true rfl, Nat.le_of_ble_eq_true rfl, Nat.le_of_ble_eq_true rfl, Nat.le_of_ble_eq_true rfl⟩ (fun t ht => ⟨Or.inl ⟨rfl, rfl⟩, ht⟩) ⟨Nat.le_of_ble_eq_true rfl, Nat.le_of_ble_eq_true rfl⟩
  · rw [if_neg q] at h
    refine x_iload_n (pc := 18) C dX7_ticket_18 rfl rfl ?_
    refine br_em (c := l2 = 0) (fun q0 => ?_) (fun q0 => ?_)
    · rw [if_pos q0] at h
      refine x_switchIn (pc := 19) (tgt := 64) C dX7_ticket_19 (by rw [q0]; decide) (by rw [q0]; decide) (o := 45) (by rw [q0]; rfl) (by decide) ?_
      refine x_aload_n (pc := 64) C dX7_ticket_64 rfl rfl ?_
      obtain ⟨k, h⟩ := chk_s h
      have k2 := k
      obtain ⟨k, h⟩ := chk_s h
      refine x_getR (pc := 65) C fX7_20 rfl k2 k dX7_ticket_65 ?_
      refine x_iload_n (pc := 68) C dX7_ticket_68 rfl rfl ?_
      obtain ⟨k, h⟩ := chk_s h
      have k2 := k
      obtain ⟨v3, σ4, k, h⟩ := bnd_s h
      refine x_callV1 (pc := 69) C (mX1_fareOf E l k) cl0 k2 cX7_169 nX1_fareOf sX1_fareOf rfl rfl (Nat.le_of_ble_eq_true rfl) ⟨Nat.le_of_ble_eq_true rfl, Nat.le_of_ble_eq_true rfl, Nat.le_of_ble_eq_true rfl, Nat.le_of_ble_eq_true rfl⟩ dX7_ticket_69 ?_
      cases h
      exact x_retV (pc := 72) C hr ⟨Nat.le_of_ble_eq_true rfl, Nat.le_of_ble_eq_true rfl⟩ dX7_ticket_72
    · rw [if_neg q0] at h
      refine br_em (c := l2 = 1) (fun q1 => ?_) (fun q1 => ?_)
      · rw [if_pos q1] at h
        refine x_switchIn (pc := 19) (tgt := 73) C dX7_ticket_19 (by rw [q1]; decide) (by rw [q1]; decide) (o := 54) (by rw [q1]; rfl) (by decide) ?_
        refine x_aload_n (pc := 73) C dX7_ticket_73 rfl rfl ?_
        obtain ⟨k, h⟩ := chk_s h
        have k2 := k
        obtain ⟨k, h⟩ := chk_s h
        refine x_getR (pc := 74) C fX7_20 rfl k2 k dX7_ticket_74 ?_
        refine x_iload_n (pc := 77) C dX7_ticket_77 rfl rfl ?_
        obtain ⟨k, h⟩ := chk_s h
        have k2 := k
        obtain ⟨v5, σ6, k, h⟩ := bnd_s h
        refine x_callV1 (pc := 78) C (mX1_howOf E l k) cl0 k2 cX7_172 nX1_howOf sX1_howOf rfl rfl (Nat.le_of_ble_eq_true rfl) ⟨Nat.le_of_ble_eq_true rfl, Nat.le_of_ble_eq_true rfl, Nat.le_of_ble_eq_true rfl, Nat.le_of_ble_eq_true rfl⟩ dX7_ticket_78 ?_
        cases h
        exact x_retV (pc := 81) C hr ⟨Nat.le_of_ble_eq_true rfl, Nat.le_of_ble_eq_true rfl⟩ dX7_ticket_81
      · rw [if_neg q1] at h
        refine br_em (c := l2 = 2) (fun q2 => ?_) (fun q2 => ?_)
        · rw [if_pos q2] at h
          refine x_switchIn (pc := 19) (tgt := 82) C dX7_ticket_19 (by rw [q2]; decide) (by rw [q2]; decide) (o := 63) (by rw [q2]; rfl) (by decide) ?_
          refine x_aload_n (pc := 82) C dX7_ticket_82 rfl rfl ?_
          obtain ⟨k, h⟩ := chk_s h
          have k2 := k
          obtain ⟨k, h⟩ := chk_s h
          refine x_getR (pc := 83) C fX7_20 rfl k2 k dX7_ticket_83 ?_
          refine x_iload_n (pc := 86) C dX7_ticket_86 rfl rfl ?_
          obtain ⟨k, h⟩ := chk_s h
          have k2 := k
          obtain ⟨v7, σ8, k, h⟩ := bnd_s h
          refine x_callV1 (pc := 87) C (mX1_couponsOf E l k) cl0 k2 cX7_107 nX1_couponsOf sX1_couponsOf rfl rfl (Nat.le_of_ble_eq_true rfl) ⟨Nat.le_of_ble_eq_true rfl, Nat.le_of_ble_eq_true rfl, Nat.le_of_ble_eq_true rfl, Nat.le_of_ble_eq_true rfl⟩ dX7_ticket_87 ?_
          cases h
          exact x_retV (pc := 90) C hr ⟨Nat.le_of_ble_eq_true rfl, Nat.le_of_ble_eq_true rfl⟩ dX7_ticket_90
        · rw [if_neg q2] at h
          refine br_em (c := l2 = 3) (fun q3 => ?_) (fun q3 => ?_)
          · rw [if_pos q3] at h
            refine x_switchIn (pc := 19) (tgt := 91) C dX7_ticket_19 (by rw [q3]; decide) (by rw [q3]; decide) (o := 72) (by rw [q3]; rfl) (by decide) ?_
            refine x_aload_n (pc := 91) C dX7_ticket_91 rfl rfl ?_
            obtain ⟨k, h⟩ := chk_s h
            have k2 := k
            obtain ⟨k, h⟩ := chk_s h
            refine x_getR (pc := 92) C fX7_39 rfl k2 k dX7_ticket_92 ?_
            obtain ⟨k, h⟩ := chk_s h
            have k2 := k
            obtain ⟨k, h⟩ := chk_s h
            refine x_getR (pc := 95) C fX7_175 rfl k2 k dX7_ticket_95 ?_
            refine x_iload_n (pc := 98) C dX7_ticket_98 rfl rfl ?_
            obtain ⟨k, h⟩ := chk_s h
            refine x_iald (pc := 99) C k dX7_ticket_99 ?_
            cases h
            exact x_retV (pc := 100) C hr ⟨Nat.le_of_ble_eq_true rfl, Nat.le_of_ble_eq_true rfl⟩ dX7_ticket_100
          · rw [if_neg q3] at h
            refine br_em (c := l2 = 4) (fun q4 => ?_) (fun q4 => ?_)
            · rw [if_pos q4] at h
              refine x_switchIn (pc := 19) (tgt := 101) C dX7_ticket_19 (by rw [q4]; decide) (by rw [q4]; decide) (o := 82) (by rw [q4]; rfl) (by decide) ?_
              refine x_aload_n (pc := 101) C dX7_ticket_101 rfl rfl ?_
              obtain ⟨k, h⟩ := chk_s h
              have k2 := k
              obtain ⟨k, h⟩ := chk_s h
              refine x_getR (pc := 102) C fX7_39 rfl k2 k dX7_ticket_102 ?_
              obtain ⟨k, h⟩ := chk_s h
              have k2 := k
              obtain ⟨k, h⟩ := chk_s h
              refine x_getR (pc := 105) C fX7_178 rfl k2 k dX7_ticket_105 ?_
              refine x_iload_n (pc := 108) C dX7_ticket_108 rfl rfl ?_
              obtain ⟨k, h⟩ := chk_s h
              refine x_iald (pc := 109) C k dX7_ticket_109 ?_
              cases h
              exact x_retV (pc := 110) C hr ⟨Nat.le_of_ble_eq_true rfl, Nat.le_of_ble_eq_true rfl⟩ dX7_ticket_110
            · rw [if_neg q4] at h
              refine br_em (c := l2 = 5) (fun q5 => ?_) (fun q5 => ?_)
              · rw [if_pos q5] at h
                refine x_switchIn (pc := 19) (tgt := 111) C dX7_ticket_19 (by rw [q5]; decide) (by rw [q5]; decide) (o := 92) (by rw [q5]; rfl) (by decide) ?_
                refine x_aload_n (pc := 111) C dX7_ticket_111 rfl rfl ?_
                obtain ⟨k, h⟩ := chk_s h
                have k2 := k
                obtain ⟨k, h⟩ := chk_s h
                refine x_getR (pc := 112) C fX7_39 rfl k2 k dX7_ticket_112 ?_
                obtain ⟨k, h⟩ := chk_s h
                have k2 := k
                obtain ⟨k, h⟩ := chk_s h
                refine x_getR (pc := 115) C fX7_181 rfl k2 k dX7_ticket_115 ?_
                refine x_iload_n (pc := 118) C dX7_ticket_118 rfl rfl ?_
                obtain ⟨k, h⟩ := chk_s h
                refine x_zald (pc := 119) C k dX7_ticket_119 ?_
                refine x_if_eq (pc := 120) (tgt := 127) C dX7_ticket_120 (by decide) (fun q => ?_) (fun q => ?_)
                · rw [if_pos q] at h
                  refine x_iconst (v := 0) (pc := 127) C dX7_ticket_127 (by decide) ?_
                  exact x_sub (tX7_ticket_128 C hr h) (xLe_n (xLe_n (xLe_n xLe_0)))
                · rw [if_neg q] at h
                  refine x_iconst (v := 1) (pc := 123) C dX7_ticket_123 (by decide) ?_
                  refine x_goto (tgt := 128) (pc := 124) C dX7_ticket_124 (by decide) ?_
                  exact x_sub (tX7_ticket_128 C hr h) (xLe_n (xLe_n (xLe_n xLe_0)))
              · rw [if_neg q5] at h
                refine br_em (c := l2 = 6) (fun q6 => ?_) (fun q6 => ?_)
                · rw [if_pos q6] at h
                  refine x_switchIn (pc := 19) (tgt := 129) C dX7_ticket_19 (by rw [q6]; decide) (by rw [q6]; decide) (o := 110) (by rw [q6]; rfl) (by decide) ?_
                  refine x_aload_n (pc := 129) C dX7_ticket_129 rfl rfl ?_
                  refine x_iload_n (pc := 130) C dX7_ticket_130 rfl rfl ?_
                  obtain ⟨k, h⟩ := chk_s h
                  have k2 := k
                  obtain ⟨v9, σ10, k, h⟩ := bnd_s h
                  refine x_callV1 (pc := 131) C (mX7_milesTogether E l k) cl5 k2 cX7_185 nX7_milesTogether sX7_milesTogether rfl rfl (Nat.le_of_ble_eq_true rfl) ⟨Nat.le_of_ble_eq_true rfl, Nat.le_of_ble_eq_true rfl, Nat.le_of_ble_eq_true rfl, Nat.le_of_ble_eq_true rfl⟩ dX7_ticket_131 ?_
                  cases h
                  exact x_retV (pc := 134) C hr ⟨Nat.le_of_ble_eq_true rfl, Nat.le_of_ble_eq_true rfl⟩ dX7_ticket_134
                · rw [if_neg q6] at h
                  refine br_em (c := l2 = 7) (fun q7 => ?_) (fun q7 => ?_)
                  · rw [if_pos q7] at h
                    refine x_switchIn (pc := 19) (tgt := 135) C dX7_ticket_19 (by rw [q7]; decide) (by rw [q7]; decide) (o := 116) (by rw [q7]; rfl) (by decide) ?_
                    refine x_aload_n (pc := 135) C dX7_ticket_135 rfl rfl ?_
                    refine x_iload_n (pc := 136) C dX7_ticket_136 rfl rfl ?_
                    obtain ⟨k, h⟩ := chk_s h
                    have k2 := k
                    obtain ⟨v11, σ12, k, h⟩ := bnd_s h
                    refine x_callV1 (pc := 137) C (mX7_flownTogether E l k) cl5 k2 cX7_188 nX7_flownTogether sX7_flownTogether rfl rfl (Nat.le_of_ble_eq_true rfl) ⟨Nat.le_of_ble_eq_true rfl, Nat.le_of_ble_eq_true rfl, Nat.le_of_ble_eq_true rfl, Nat.le_of_ble_eq_true rfl⟩ dX7_ticket_137 ?_
                    cases h
                    exact x_retV (pc := 140) C hr ⟨Nat.le_of_ble_eq_true rfl, Nat.le_of_ble_eq_true rfl⟩ dX7_ticket_140
                  · rw [if_neg q7] at h
                    have eq0 := sw_ne (k := 0) q0 (by decide)
                    have eq1 := sw_ne (k := 1) q1 (by decide)
                    have eq2 := sw_ne (k := 2) q2 (by decide)
                    have eq3 := sw_ne (k := 3) q3 (by decide)
                    have eq4 := sw_ne (k := 4) q4 (by decide)
                    have eq5 := sw_ne (k := 5) q5 (by decide)
                    have eq6 := sw_ne (k := 6) q6 (by decide)
                    have eq7 := sw_ne (k := 7) q7 (by decide)
                    refine x_switchOut (pc := 19) (tgt := 141) C dX7_ticket_19 (by omega) (by decide) ?_
                    cases h
                    exact x_throwE (pc := 141) C hr.2.1 hr.2.2.1 hr.2.1.2.2.2.1 dX7_ticket_141 dX7_ticket_144 dX7_ticket_145 dX7_ticket_147 dX7_ticket_150 hr.2.2.2 ⟨Nat.le_of_ble_eq_true rfl, Nat.le_of_ble_eq_true rfl, Nat.le_of_ble_eq_true rfl, Nat.le_of_ble_eq_true rfl⟩ (fun t ht => ⟨Or.inr ⟨rfl, rfl⟩, ht⟩) ⟨Nat.le_of_ble_eq_true rfl, Nat.le_of_ble_eq_true rfl⟩
end

/-! WHAT IS KNOWN AT THE LAW'S ENTRY -/
def fl1 : List Cond := flatC (Jvm.Cond.and given_1 narrow_1)
abbrev kTk : String := "Prorates$Token"
abbrev kTd : String := "LProrates$Token;"
abbrev kTt (i : Nat) : Term := .static kTk (tokN.getD i "") kTd
abbrev kOrd : List (String × String × String × List Int32) := [("java/lang/Enum", "ordinal", "I", [0, 1, 2, 3, 4, 5, 6, 7, 8, 9, 10, 11, 12, 13, 14, 15, 16, 17, 18, 19])]
abbrev kTs : Term := .static "Prorates$Reader" "TOKENS" "[LProrates$Token;"
abbrev kSw : Term := .static "Prorates$1" "$SwitchMap$Prorates$Token" "[I"
abbrev kWd : Term := .string "ProratesModel" 151
theorem kn_l : ∀ i, i < tokN.length → Cond.laysStatic kTk (tokN.getD i "") kTd ∈ lw_tbl := by decide +kernel
theorem kn_x : ∀ i, i < tokN.length → Cond.exactly (kTt i) kTk ∈ fl1 := by decide +kernel
theorem kn_o : ∀ q ∈ kOrd, ∀ i, i < tokN.length → Cond.eq (.field (kTt i) q.1 q.2.1 q.2.2.1) (.int (q.2.2.2.getD i 0)) ∈ fl1 := by decide +kernel
theorem kn_c : ∀ i, i < tokN.length → Cond.eq (.field (kTt i) kTk "code" "J") (.long (tokC.getD i 0)) ∈ fl1 := by decide +kernel
def kNL : List Nat := [0, 10, 50, 44, 14, 125, 137, 150, 164, 179, 80, 195, 212, 230, 249, 88, 107, 269, 290, 97, 0, 0, 51, 45, 15, 126, 138, 151, 165, 180, 81, 196, 213, 231, 250, 89, 108, 270, 291, 98, 0, 0, 0, 53, 52, 129, 141, 154, 168, 183, 84, 199, 216, 234, 253, 92, 111, 273, 294, 101, 0, 0, 0, 0, 46, 128, 140, 153, 167, 182, 83, 198, 215, 233, 252, 91, 110, 272, 293, 100, 0, 0, 0, 0, 0, 127, 139, 152, 166, 181, 82, 197, 214, 232, 251, 90, 109, 271, 292, 99, 0, 0, 0, 0, 0, 0, 146, 159, 173, 188, 130, 204, 221, 239, 258, 131, 133, 278, 299, 132, 0, 0, 0, 0, 0, 0, 0, 160, 174, 189, 142, 205, 222, 240, 259, 143, 145, 279, 300, 144, 0, 0, 0, 0, 0, 0, 0, 0, 175, 190, 155, 206, 223, 241, 260, 156, 158, 280, 301, 157, 0, 0, 0, 0, 0, 0, 0, 0, 0, 191, 169, 207, 224, 242, 261, 170, 172, 281, 302, 171, 0, 0, 0, 0, 0, 0, 0, 0, 0, 0, 184, 208, 225, 243, 262, 185, 187, 282, 303, 186, 0, 0, 0, 0, 0, 0, 0, 0, 0, 0, 0, 200, 217, 235, 254, 93, 112, 274, 295, 102, 0, 0, 0, 0, 0, 0, 0, 0, 0, 0, 0, 0, 226, 244, 263, 201, 203, 283, 304, 202, 0, 0, 0, 0, 0, 0, 0, 0, 0, 0, 0, 0, 0, 245, 264, 218, 220, 284, 305, 219, 0, 0, 0, 0, 0, 0, 0, 0, 0, 0, 0, 0, 0, 0, 265, 236, 238, 285, 306, 237, 0, 0, 0, 0, 0, 0, 0, 0, 0, 0, 0, 0, 0, 0, 0, 255, 257, 286, 307, 256, 0, 0, 0, 0, 0, 0, 0, 0, 0, 0, 0, 0, 0, 0, 0, 0, 113, 275, 296, 103, 0, 0, 0, 0, 0, 0, 0, 0, 0, 0, 0, 0, 0, 0, 0, 0, 0, 277, 298, 114, 0, 0, 0, 0, 0, 0, 0, 0, 0, 0, 0, 0, 0, 0, 0, 0, 0, 0, 308, 276, 0, 0, 0, 0, 0, 0, 0, 0, 0, 0, 0, 0, 0, 0, 0, 0, 0, 0, 0, 297, 0, 0, 0, 0, 0, 0, 0, 0, 0, 0, 0, 0, 0, 0, 0, 0, 0, 0, 0, 0]
theorem kn_d0 : ∀ i, i < 20 → ∀ j, j < 20 → i < j → fl1[kNL.getD (20 * i + j) 0]? = some (Cond.not (.eq (kTt i) (kTt j))) ∨ fl1[kNL.getD (20 * i + j) 0]? = some (Cond.not (.eq (kTt j) (kTt i))) := by decide +kernel
theorem kn_d : ∀ i, i < tokN.length → ∀ j, j < tokN.length → i ≠ j → Cond.not (.eq (kTt i) (kTt j)) ∈ fl1 ∨ Cond.not (.eq (kTt j) (kTt i)) ∈ fl1 := by
  intro i hi j hj hij
  rcases Nat.lt_or_gt_of_ne hij with h | h
  · exact (kn_d0 i hi j hj h).imp List.mem_of_getElem? List.mem_of_getElem?
  · exact ((kn_d0 j hj i hi h).imp List.mem_of_getElem? List.mem_of_getElem?).symm
theorem kn_t : Cond.arrayOf kTs (.object kTk) ∈ fl1 ∧ Cond.eq (.length kTs) (.int (Int32.ofNat 20)) ∈ fl1 ∧ ∀ j, j < 20 → Cond.eq (.elem kTs (.int (Int32.ofNat j))) (kTt j) ∈ fl1 := by decide +kernel
theorem kn_s : Cond.arrayOf kSw .int ∈ fl1 ∧ Cond.eq (.length kSw) (.int (Int32.ofNat 20)) ∈ fl1 ∧ ∀ j, j < 20 → Cond.eq (.elem kSw (.int (Int32.ofNat j))) (.int (swm.getD j 0)) ∈ fl1 := by decide +kernel
theorem kn_w1 : Cond.exactly kWd "java/lang/String" ∈ fl1 ∧ Cond.eq (.field kWd "java/lang/String" "coder" "B") (.int 0) ∈ fl1 ∧ Cond.arrayOf (.field kWd "java/lang/String" "value" "[B") .byte ∈ fl1 ∧ Cond.eq (.length (.field kWd "java/lang/String" "value" "[B")) (.int (Int32.ofNat 85)) ∈ fl1 := by decide +kernel
theorem kn_w2 : ∀ j, j < 85 → fl1[387 + j]? = some (Cond.eq (.elem (.field kWd "java/lang/String" "value" "[B") (.int (Int32.ofNat j))) (.int (wrd.getD j 0))) := by decide +kernel
theorem kn_w : Cond.exactly kWd "java/lang/String" ∈ fl1 ∧ Cond.eq (.field kWd "java/lang/String" "coder" "B") (.int 0) ∈ fl1 ∧ Cond.arrayOf (.field kWd "java/lang/String" "value" "[B") .byte ∈ fl1 ∧ Cond.eq (.length (.field kWd "java/lang/String" "value" "[B")) (.int (Int32.ofNat 85)) ∈ fl1 ∧
    ∀ j, j < 85 → Cond.eq (.elem (.field kWd "java/lang/String" "value" "[B") (.int (Int32.ofNat j))) (.int (wrd.getD j 0)) ∈ fl1 := ⟨kn_w1.1, kn_w1.2.1, kn_w1.2.2.1, kn_w1.2.2.2, fun j hj => List.mem_of_getElem? (kn_w2 j hj)⟩
theorem kn_r : Cond.eq (.static "java/lang/String" "COMPACT_STRINGS" "Z") (.int 1) ∈ fl1 ∧ Cond.isRef (.static "jdk/internal/util/Preconditions" "SIOOBE_FORMATTER" "Ljava/util/function/BiFunction;") ∈ fl1 ∧ Cond.isRef (.static Bundle.tN "UNASSIGNED_STACK" Bundle.steD) ∈ fl1 ∧ Cond.isRef (.static Bundle.tN "SUPPRESSED_SENTINEL" Bundle.listD) ∈ fl1 ∧
    Cond.exactly (.string "Prorates" 142) "java/lang/String" ∈ fl1 ∧ Cond.exactly (.string "Prorates" 149) "java/lang/String" ∈ fl1 ∧ Cond.exactly (.string "Prorates" 167) "java/lang/String" ∈ fl1 ∧ Cond.not (.castable kyE kyI) ∈ fl1 := by decide +kernel
theorem va_Tf {ty : FieldType} {t N : Nat} {f g : Nat → Value} {A : Nat → Prop} {U : State} {H : Heap} (h : va_T ty t N f A U H) (e : ∀ j, j < N → g j = f j) : va_T ty t N g A U H := by
  obtain ⟨cell, h1, h2, h3, h4, h5, h6, h7⟩ := h
  exact ⟨cell, h1, h2, h3, h4, h5, fun j hj => by rw [e j hj]; exact h6 j hj, h7⟩
theorem nest_t {w : Cond} (h : isNest w = true) : w.onTables = true := by
  cases w <;> first | rfl | cases h
theorem kn_cl {s : State} {a : Array Value} (hw : ∀ w ∈ lw_tbl, w.before a s = true) : ∃ D : va_G, ∀ (c : Nat) (q : vw_C), vwCl[c]? = some q → u_Kn s q.1 q.2.1 q.2.2 (D.1 c) (D.2 c) := by
  have hts : ∀ w ∈ tblG, w.before a s = true := fun w h => hw w (List.mem_filter.mp h).1
  have h0 : ∀ c : Nat, ∃ x : ClassId × (Nat → Nat), ∀ q : vw_C, vwCl[c]? = some q → u_Kn s q.1 q.2.1 q.2.2 x.1 x.2 := by
    intro c
    by_cases h : c < 7
    · rcases (by omega : c = 0 ∨ c = 1 ∨ c = 2 ∨ c = 3 ∨ c = 4 ∨ c = 5 ∨ c = 6) with rfl | rfl | rfl | rfl | rfl | rfl | rfl
      · obtain ⟨cC, iS, h⟩ := u_known (n := 20) hts cl0.2.1 (hts _ (tG 206 (by decide +kernel) rfl))
        exact ⟨(cC, iS), fun q hq => by cases hq; exact h⟩
      · obtain ⟨cC, iS, h⟩ := u_known (n := 11) hts cl1.2.1 (hts _ (tG 348 (by decide +kernel) rfl))
        exact ⟨(cC, iS), fun q hq => by cases hq; exact h⟩
      · obtain ⟨cC, iS, h⟩ := u_known (n := 11) hts cl2.2.1 (hts _ (tG 304 (by decide +kernel) rfl))
        exact ⟨(cC, iS), fun q hq => by cases hq; exact h⟩
      · obtain ⟨cC, iS, h⟩ := u_known (n := 3) hts cl3.2.1 (hts _ (tG 473 (by decide +kernel) rfl))
        exact ⟨(cC, iS), fun q hq => by cases hq; exact h⟩
      · obtain ⟨cC, iS, h⟩ := u_known (n := 18) hts cl4.2.1 (hts _ (tG 401 (by decide +kernel) rfl))
        exact ⟨(cC, iS), fun q hq => by cases hq; exact h⟩
      · obtain ⟨cC, iS, h⟩ := u_known (n := 10) hts cl5.2.1 (hts _ (tG 198 (by decide +kernel) rfl))
        exact ⟨(cC, iS), fun q hq => by cases hq; exact h⟩
      · obtain ⟨cC, iS, h⟩ := u_known (n := 58) hts cl6.2.1 (hts _ (tG 1272 (by decide +kernel) rfl))
        exact ⟨(cC, iS), fun q hq => by cases hq; exact h⟩
    · refine ⟨(0, fun _ => 0), fun q hq => ?_⟩
      rw [List.getElem?_eq_none (by show 7 ≤ c; omega)] at hq
      cases hq
  obtain ⟨f, hf⟩ := Classical.axiomOfChoice h0
  exact ⟨(fun c => (f c).1, fun c => (f c).2), hf⟩
theorem kn_ar {s : State} {a : Array Value} {ty : FieldType} (hg : va_RA s = va_RA s) (h : (Cond.arrayClass ty).before a s = true) : ∃ c : ClassId, ArrOfT s c ty ∧ s.vm.findClass ("[" ++ ty.toString) = some c := by
  obtain ⟨c, k, comp, h1, h2, h3⟩ := Cond.arrayClass_spec h
  exact ⟨c, fun n z => ⟨fun k h => (by cases h), k, h2, comp, h3⟩, h1⟩
theorem kn_ty {s : State} {a : Array Value} (hw : ∀ w ∈ lw_tbl, w.before a s = true) : ∃ c0 c1 c2 c3 : ClassId, ∀ (k : Nat) (q : ClassId × FieldType), ([(c0, .int), (c1, .boolean), (c2, .long), (c3, .array .int)] : List (ClassId × FieldType))[k]? = some q → ArrOfT s q.1 q.2 ∧ va_RA s q.1 q.2 := by
  obtain ⟨c0, a0, b0⟩ := kn_ar rfl (hw _ (List.mem_of_getElem? (i := 301) (by decide +kernel : lw_tbl[301]? = some (.arrayClass .int))))
  obtain ⟨c1, a1, b1⟩ := kn_ar rfl (hw _ (List.mem_of_getElem? (i := 399) (by decide +kernel : lw_tbl[399]? = some (.arrayClass .boolean))))
  obtain ⟨c2, a2, b2⟩ := kn_ar rfl (hw _ (List.mem_of_getElem? (i := 302) (by decide +kernel : lw_tbl[302]? = some (.arrayClass .long))))
  obtain ⟨comp, c3, k, -, h2, h3, h4⟩ := Cond.arrayOver_specA (hw _ (List.mem_of_getElem? (i := 212) (by decide +kernel : lw_tbl[212]? = some (.arrayOver (.array .int)))))
  have a3 : ArrOfT s c3 (.array .int) := fun n z => ⟨fun k h => (by cases h), k, h2, comp, h3⟩
  refine ⟨c0, c1, c2, c3, fun k q hq => ?_⟩
  by_cases h : k < 4
  · rcases (by omega : k = 0 ∨ k = 1 ∨ k = 2 ∨ k = 3) with rfl | rfl | rfl | rfl
    · cases hq; exact ⟨a0, b0⟩
    · cases hq; exact ⟨a1, b1⟩
    · cases hq; exact ⟨a2, b2⟩
    · cases hq; exact ⟨a3, h4⟩
  · rw [List.getElem?_eq_none (by show 4 ≤ k; omega)] at hq
    cases hq
theorem kn_all {s : State} {b L : Nat} {xs : Nat → Int32} (hw : ∀ w ∈ lw_tbl, w.before #[Value.ref b] s = true) (hs : ∀ w ∈ fl1, w.before #[Value.ref b] s = true) (hX : va_X b L xs s s.heap) (hb : b < s.heap.size) :
    ∃ E : Ev, eH E = s.heap ∧ eX E 24 = b ∧ eL E = L ∧ KU E s ∧ KV E s := by
  have hA : ∀ a : Nat, a < s.heap.size → ¬ s.heap.size ≤ a := fun a h => Nat.not_le.mpr h
  have hi : ∀ (i : Nat) {w : Cond}, lw_tbl[i]? = some w → w.before #[Value.ref b] s = true := fun i w h => hw w (List.mem_of_getElem? h)
  obtain ⟨D, hD⟩ := kn_cl hw
  obtain ⟨c0, c1, c2, c3, hC⟩ := kn_ty hw
  obtain ⟨ad, hEn, had⟩ := va_Enof2 (A := fun q => s.heap.size ≤ q) (E := kTk) (d := kTd) (nm := tokN) (F := kOrd) (fun i h => hw _ (kn_l i h)) (hi 181 (by decide +kernel)) (fun i h => hs _ (kn_x i h)) (fun q hq i h => hs _ (kn_o q hq i h)) (fun i j h k n => (kn_d i h j k n).imp (hs _) (hs _)) hA
  obtain ⟨t20, ht20, hT20⟩ := va_Tof (A := fun q => s.heap.size ≤ q) (tm := kTs) (ty := .object kTk) (N := 20) (f := fun j => .ref (ad j)) (by decide) (hs _ kn_t.1) (va_eqt (hs _ kn_t.2.1)) (fun j hj => va_eqv (hs _ (kn_t.2.2 j hj)) (had j hj)) hA
  obtain ⟨t21, ht21, hT21⟩ := va_Tof (A := fun q => s.heap.size ≤ q) (tm := kSw) (ty := .int) (N := 20) (f := fun j => .int (swm.getD j 0)) (by decide) (hs _ kn_s.1) (va_eqt (hs _ kn_s.2.1)) (fun j hj => va_eqt (hs _ (kn_s.2.2 j hj))) hA
  have z0 : ∀ {i : Nat}, i < 1 → i = 0 := fun h => Nat.lt_one_iff.mp h
  obtain ⟨adK, adV, hSt, hSe⟩ := vk_Sof (A := fun q => s.heap.size ≤ q) (s := s) (args := #[Value.ref b]) (N := 1) (tm := fun _ => kWd) (len := [85]) (byt := [wrd]) (fun i h => (by rw [z0 h]; decide)) (fun i h => hs _ kn_w.1) (fun i h => hs _ kn_w.2.1) (fun i h => hs _ kn_w.2.2.1)
    (fun i h => (by rw [z0 h]; exact hs _ kn_w.2.2.2.1)) (fun i h j hj => (by rw [z0 h] at hj ⊢; exact hs _ (kn_w.2.2.2.2 j hj))) (fun i j h k n => absurd ((z0 h).trans (z0 k).symm) n) hA
  obtain ⟨s1, s2, s3, s4⟩ := hSt.1 0 (by omega)
  have e22 := hSe 0 (by omega)
  obtain ⟨E, hE⟩ : ∃ E : Ev, E = (s.heap, D, (fun i => if i = 0 then c0 else if i = 1 then c1 else if i = 2 then c2 else c3), (fun i => if i < 20 then ad i else if i = 20 then t20 else if i = 21 then t21 else if i = 22 then adK 0 else if i = 23 then adV 0 else b), L, xs) := ⟨_, rfl⟩
  have x0 : ∀ i, i < 20 → eX E i = ad i := fun i h => by rw [hE]; exact if_pos h
  have x20 : eX E 20 = t20 := by rw [hE]; rfl
  have x21 : eX E 21 = t21 := by rw [hE]; rfl
  have x22 : eX E 22 = adK 0 := by rw [hE]; rfl
  have x23 : eX E 23 = adV 0 := by rw [hE]; rfl
  have x24 : eX E 24 = b := by rw [hE]; rfl
  have xH : eH E = s.heap := by rw [hE]; rfl
  have xF : eF E = fun q => s.heap.size ≤ q := by unfold eF; rw [xH]
  have xL' : eL E = L := by rw [hE]; rfl
  have xS : eS E = xs := by rw [hE]; rfl
  refine ⟨E, xH, x24, xL', ⟨?_, ?_⟩, ?_⟩
  · rw [hE]
    exact ⟨hD, hC⟩
  · have hAO : xAO s := hw _ (List.mem_of_getElem? (i := 212) (by decide +kernel : lw_tbl[212]? = some (.arrayOver (.array .int))))
    unfold KX
    rw [xF, xH, x20, x21, x22, x23, x24, xL', xS]
    refine ⟨⟨fun i h => by rw [x0 i h]; exact hEn.1 i h, fun i j h k e => hEn.2 i j h k (by rw [← x0 i h, ← x0 j k]; exact e)⟩, fun i h => ?_, va_Zref (hi 560 (by decide +kernel)) (hi 179 (by decide +kernel)) ht20 hA, va_Tf hT20 (fun j hj => by rw [x0 j hj]), va_Zref (hi 579 (by decide +kernel)) (hi 187 (by decide +kernel)) ht21 hA, hT21, s1, s3, s2, s4,
      va_Zof (hi 1510 (by decide +kernel)) (hi 188 (by decide +kernel)) (va_eqi (hs _ kn_r.1)) hA, va_Zqof (hi 1526 (by decide +kernel)) (hi 190 (by decide +kernel)) (hs _ kn_r.2.1) hA, vk_R.of (hi 1500 (by decide +kernel)) e22, hX, hb, hAO, fun w h => va_Nw.of (nest_t (List.mem_filter.mp h).2) (hw w (List.mem_filter.mp h).1)⟩
    rw [x0 i h]
    exact vk_OFof (had i h) (va_eqv (hs _ (kn_c i h)) rfl) hA
  · unfold KV
    rw [xF, xH]
    obtain ⟨-, -, r3, r4, r5, r6, r7, r8⟩ := kn_r
    refine ⟨vx_Zqof (hi 1198 (by decide +kernel)) (hi 192 (by decide +kernel)) (hs _ r3) hA, vx_Zqof (hi 1200 (by decide +kernel)) (hi 192 (by decide +kernel)) (hs _ r4) hA, ?_, ?_, ?_, va_Nw.of rfl (hi 1175 (by decide +kernel)), va_Nw.of rfl (hi 1177 (by decide +kernel)), va_Nw.of rfl (hi 1179 (by decide +kernel)), va_Nw.of rfl (hi 1173 (by decide +kernel)), va_Nw.of rfl (hi 1240 (by decide +kernel)), va_Nc.of (hs _ r8)⟩
    · obtain ⟨q, c, cA, kA, q1, -⟩ := Cond.exactly_spec (hs _ r5)
      exact ⟨q, vk_R.of (hi 1211 (by decide +kernel)) q1⟩
    · obtain ⟨q, c, cA, kA, q1, -⟩ := Cond.exactly_spec (hs _ r6)
      exact ⟨q, vk_R.of (hi 1247 (by decide +kernel)) q1⟩
    · obtain ⟨q, c, cA, kA, q1, -⟩ := Cond.exactly_spec (hs _ r7)
      exact ⟨q, vk_R.of (hi 1265 (by decide +kernel)) q1⟩

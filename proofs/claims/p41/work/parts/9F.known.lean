/-! WHAT IS KNOWN AT THE LAW'S ENTRY -/
def fl1 : List Cond := flatC (Jvm.Cond.and given_1 narrow_1)
abbrev kTk : String := "Prorates$Token"
abbrev kTd : String := "LProrates$Token;"
abbrev kTt (i : Nat) : Term := .static kTk (tokN.getD i "") kTd
abbrev kOrd : List (String × String × String × List Int32) := [("java/lang/Enum", "ordinal", "I", [0, 1, 2, 3, 4, 5, 6, 7, 8, 9, 10, 11, 12, 13, 14, 15, 16, 17, 18, 19])]
abbrev kTs : Term := .static "Prorates$Reader" "TOKENS" "[LProrates$Token;"
abbrev kSw : Term := .static "Prorates$1" "$SwitchMap$Prorates$Token" "[I"
abbrev kKi : Term := .static "ProratesLaw" "KINDS" "[Ljava/lang/String;"
abbrev kD1 : Term := .static "java/lang/Integer" "DigitOnes" "[B"
abbrev kD10 : Term := .static "java/lang/Integer" "DigitTens" "[B"
def kSI : List Nat := [21, 59, 64, 66, 74, 76, 82, 87, 98, 109, 111, 117, 119, 128, 136, 144, 146, 284, 286, 288, 290]
def kSP : List Nat := [386, 356, 373, 332, 341, 346, 361, 378, 391, 400, 412, 421, 425, 435, 444, 456, 467, 511, 520, 528, 537]
def kSR : List Nat := [930, 901, 928, 687, 836, 897, 924, 929, 940, 947, 952, 955, 956, 963, 967, 971, 972, 1418, 1419, 1420, 1421]
def kST : List String := strL.map (fun q => q.2.1)
abbrev kSt (i : Nat) : Term := .string "ProratesLaw" (kSI.getD i 0)
theorem kn_l : ∀ i, i < tokN.length → Cond.laysStatic kTk (tokN.getD i "") kTd ∈ lw_tbl := by decide +kernel
theorem kn_x : ∀ i, i < tokN.length → Cond.exactly (kTt i) kTk ∈ fl1 := by decide +kernel
theorem kn_o : ∀ q ∈ kOrd, ∀ i, i < tokN.length → Cond.eq (.field (kTt i) q.1 q.2.1 q.2.2.1) (.int (q.2.2.2.getD i 0)) ∈ fl1 := by decide +kernel
theorem kn_c : ∀ i, i < tokN.length → Cond.eq (.field (kTt i) kTk "code" "J") (.long (tokC.getD i 0)) ∈ fl1 := by decide +kernel
theorem kn_t : fl1[233]? = some (Cond.arrayOf kTs (.object kTk)) ∧ fl1[233 + 1]? = some (Cond.eq (.length kTs) (.int (Int32.ofNat 20))) ∧ ∀ j, j < 20 → fl1[236 + j]? = some (Cond.eq (.elem kTs (.int (Int32.ofNat j))) (kTt j)) := by decide +kernel
theorem kn_s : fl1[263]? = some (Cond.arrayOf kSw .int) ∧ fl1[263 + 1]? = some (Cond.eq (.length kSw) (.int (Int32.ofNat 20))) ∧ ∀ j, j < 20 → fl1[263 + 2 + j]? = some (Cond.eq (.elem kSw (.int (Int32.ofNat j))) (.int (swm.getD j 0))) := by decide +kernel
theorem kn_k : fl1[219]? = some (Cond.arrayOf kKi (.object "java/lang/String")) ∧ fl1[219 + 1]? = some (Cond.eq (.length kKi) (.int (Int32.ofNat 4))) ∧ ∀ j, j < 4 → fl1[219 + 2 + j]? = some (Cond.eq (.elem kKi (.int (Int32.ofNat j))) (kSt (17 + j))) := by decide +kernel
theorem kn_1 : fl1[13]? = some (Cond.arrayOf kD1 .byte) ∧ fl1[13 + 1]? = some (Cond.eq (.length kD1) (.int (Int32.ofNat 100))) ∧ ∀ j, j < 100 → fl1[13 + 2 + j]? = some (Cond.eq (.elem kD1 (.int (Int32.ofNat j))) (.int (nI (48 + j % 10)))) := by decide +kernel
theorem kn_10 : fl1[116]? = some (Cond.arrayOf kD10 .byte) ∧ fl1[116 + 1]? = some (Cond.eq (.length kD10) (.int (Int32.ofNat 100))) ∧ ∀ j, j < 100 → fl1[116 + 2 + j]? = some (Cond.eq (.elem kD10 (.int (Int32.ofNat j))) (.int (nI (48 + j / 10 % 10)))) := by decide +kernel
theorem kn_w1 : ∀ i, i < 21 → fl1[kSP.getD i 0]? = some (Cond.exactly (kSt i) "java/lang/String") ∧ fl1[kSP.getD i 0 + 1]? = some (Cond.eq (.field (kSt i) "java/lang/String" "coder" "B") (.int 0)) ∧ fl1[kSP.getD i 0 + 2]? = some (Cond.arrayOf (.field (kSt i) "java/lang/String" "value" "[B") .byte) ∧ fl1[kSP.getD i 0 + 3]? = some (Cond.eq (.length (.field (kSt i) "java/lang/String" "value" "[B")) (.int (Int32.ofNat (strB.getD i []).length))) := by decide +kernel
theorem kn_w2 : ∀ i, i < 21 → ∀ j, j < (strB.getD i []).length → fl1[kSP.getD i 0 + 4 + j]? = some (Cond.eq (.elem (.field (kSt i) "java/lang/String" "value" "[B") (.int (Int32.ofNat j))) (.int ((strB.getD i []).getD j 0))) := by decide +kernel
theorem kn_w3 : ∀ i, i < 21 → lw_tbl[kSR.getD i 0]? = some (Cond.stringRef "ProratesLaw" (kSI.getD i 0) (kST.getD i "")) := by decide +kernel
theorem kn_w4 : ∀ q ∈ strL, ∃ i, i < 21 ∧ q = (kSI.getD i 0, kST.getD i "", 30 + i) := by
  intro q hq
  have h : ∀ q ∈ strL, (List.range 21).any (fun i => decide (q = (kSI.getD i 0, kST.getD i "", 30 + i))) = true := by decide +kernel
  obtain ⟨i, h1, h2⟩ := List.any_eq_true.mp (h q hq)
  exact ⟨i, List.mem_range.mp h1, of_decide_eq_true h2⟩
theorem kn_w5 : ∀ i, i < 21 → (strB.getD i []).length < 2 ^ 31 := by decide +kernel
theorem kn_r : Cond.eq (.static "java/lang/String" "COMPACT_STRINGS" "Z") (.int 1) ∈ fl1 ∧ Cond.isRef (.static "jdk/internal/util/Preconditions" "SIOOBE_FORMATTER" "Ljava/util/function/BiFunction;") ∈ fl1 := by decide +kernel
theorem nest_t {w : Cond} (h : isNest w = true) : w.onTables = true := by
  cases w <;> first | rfl | cases h
theorem va_Tf {ty : FieldType} {t N : Nat} {f g : Nat → Value} {A : Nat → Prop} {U : State} {H : Heap} (h : va_T ty t N f A U H) (e : ∀ j, j < N → g j = f j) : va_T ty t N g A U H := by
  obtain ⟨cell, h1, h2, h3, h4, h5, h6, h7⟩ := h
  exact ⟨cell, h1, h2, h3, h4, h5, fun j hj => by rw [e j hj]; exact h6 j hj, h7⟩
/-- the words of the tables, with those of private members of the class above -/
theorem kn_tG {s : State} {a : Array Value} (hw : ∀ w ∈ lw_tbl, w.before a s = true) : ∀ w ∈ tblG, w.before a s = true := by
  intro w h
  rcases List.mem_append.mp (List.mem_filter.mp h).1 with h | h
  · exact hw w h
  · have hi : ∀ (i : Nat) {w : Cond}, lw_tbl[i]? = some w → w.before a s = true := fun i w h => hw w (List.mem_of_getElem? h)
    have hs : (Cond.selects RJ4 yJ5_isLatin1_aae02 yJ5_isLatin1_aae02).before a s = true := hi 737 (by decide +kernel)
    unfold xSel at h
    simp only [List.mem_cons, List.not_mem_nil, or_false] at h
    rcases h with rfl | rfl | rfl | rfl
    · exact sel_priv (z := yJ5_isLatin1_aae02) (by decide) rfl hs (hi 704 (by decide +kernel)) (hi (704 + 1) (by decide +kernel))
    · exact sel_priv (z := yJ5_isLatin1_aae02) (by decide) rfl hs (hi 779 (by decide +kernel)) (hi (779 + 1) (by decide +kernel))
    · exact sel_priv (z := yJ5_isLatin1_aae02) (by decide) rfl hs (hi 775 (by decide +kernel)) (hi (775 + 1) (by decide +kernel))
    · exact sel_priv (z := yJ5_isLatin1_aae02) (by decide) rfl hs (hi 700 (by decide +kernel)) (hi (700 + 1) (by decide +kernel))
theorem kn_cl {s : State} {a : Array Value} (hw : ∀ w ∈ lw_tbl, w.before a s = true) : ∃ D : va_G, ∀ (c : Nat) (q : vw_C), vwCl[c]? = some q → u_Kn s q.1 q.2.1 q.2.2 (D.1 c) (D.2 c) := by
  have hts := kn_tG hw
  have h0 : ∀ c : Nat, ∃ x : ClassId × (Nat → Nat), ∀ q : vw_C, vwCl[c]? = some q → u_Kn s q.1 q.2.1 q.2.2 x.1 x.2 := by
    intro c
    by_cases h : c < 9
    · rcases (by omega : c = 0 ∨ c = 1 ∨ c = 2 ∨ c = 3 ∨ c = 4 ∨ c = 5 ∨ c = 6 ∨ c = 7 ∨ c = 8) with rfl | rfl | rfl | rfl | rfl | rfl | rfl | rfl | rfl
      · obtain ⟨cC, iS, h⟩ := u_known (n := 20) hts cl0.2.1 (hts _ (tG 129 (by decide +kernel) rfl))
        exact ⟨(cC, iS), fun q hq => by cases hq; exact h⟩
      · obtain ⟨cC, iS, h⟩ := u_known (n := 11) hts cl1.2.1 (hts _ (tG 287 (by decide +kernel) rfl))
        exact ⟨(cC, iS), fun q hq => by cases hq; exact h⟩
      · obtain ⟨cC, iS, h⟩ := u_known (n := 11) hts cl2.2.1 (hts _ (tG 445 (by decide +kernel) rfl))
        exact ⟨(cC, iS), fun q hq => by cases hq; exact h⟩
      · obtain ⟨cC, iS, h⟩ := u_known (n := 3) hts cl3.2.1 (hts _ (tG 605 (by decide +kernel) rfl))
        exact ⟨(cC, iS), fun q hq => by cases hq; exact h⟩
      · obtain ⟨cC, iS, h⟩ := u_known (n := 18) hts cl4.2.1 (hts _ (tG 138 (by decide +kernel) rfl))
        exact ⟨(cC, iS), fun q hq => by cases hq; exact h⟩
      · obtain ⟨cC, iS, h⟩ := u_known (n := 10) hts cl5.2.1 (hts _ (tG 120 (by decide +kernel) rfl))
        exact ⟨(cC, iS), fun q hq => by cases hq; exact h⟩
      · obtain ⟨cC, iS, h⟩ := u_known (n := 7) hts cl6.2.1 (hts _ (tG 1238 (by decide +kernel) rfl))
        exact ⟨(cC, iS), fun q hq => by cases hq; exact h⟩
      · obtain ⟨cC, iS, h⟩ := u_known (n := 4) hts cl7.2.1 (hts _ (tG 842 (by decide +kernel) rfl))
        exact ⟨(cC, iS), fun q hq => by cases hq; exact h⟩
      · obtain ⟨cC, iS, h⟩ := u_known (n := 4) hts cl8.2.1 (hts _ (tG 656 (by decide +kernel) rfl))
        exact ⟨(cC, iS), fun q hq => by cases hq; exact h⟩
    · refine ⟨(0, fun _ => 0), fun q hq => ?_⟩
      rw [List.getElem?_eq_none (by show 9 ≤ c; omega)] at hq
      cases hq
  obtain ⟨f, hf⟩ := Classical.axiomOfChoice h0
  exact ⟨(fun c => (f c).1, fun c => (f c).2), hf⟩
theorem kn_ar {s : State} {a : Array Value} {ty : FieldType} (h : (Cond.arrayClass ty).before a s = true) : ∃ c : ClassId, ArrOfT s c ty ∧ s.vm.findClass ("[" ++ ty.toString) = some c := by
  obtain ⟨c, k, comp, h1, h2, h3⟩ := Cond.arrayClass_spec h
  exact ⟨c, fun n z => ⟨fun k h => (by cases h), k, h2, comp, h3⟩, h1⟩
theorem kn_ty {s : State} {a : Array Value} (hw : ∀ w ∈ lw_tbl, w.before a s = true) : ∃ c0 c1 c2 c3 c4 : ClassId, ∀ (k : Nat) (q : ClassId × FieldType), ([(c0, .int), (c1, .boolean), (c2, .long), (c3, .array .int), (c4, .byte)] : List (ClassId × FieldType))[k]? = some q → ArrOfT s q.1 q.2 ∧ va_RA s q.1 q.2 := by
  obtain ⟨c0, a0, b0⟩ := kn_ar (hw _ (List.mem_of_getElem? (i := 442) (by decide +kernel : lw_tbl[442]? = some (.arrayClass .int))))
  obtain ⟨c1, a1, b1⟩ := kn_ar (hw _ (List.mem_of_getElem? (i := 534) (by decide +kernel : lw_tbl[534]? = some (.arrayClass .boolean))))
  obtain ⟨c2, a2, b2⟩ := kn_ar (hw _ (List.mem_of_getElem? (i := 443) (by decide +kernel : lw_tbl[443]? = some (.arrayClass .long))))
  obtain ⟨c4, a4, b4⟩ := kn_ar (hw _ (List.mem_of_getElem? (i := 686) (by decide +kernel : lw_tbl[686]? = some (.arrayClass .byte))))
  obtain ⟨comp, c3, k, -, h2, h3, h4⟩ := Cond.arrayOver_specA (hw _ (List.mem_of_getElem? (i := 360) (by decide +kernel : lw_tbl[360]? = some (.arrayOver (.array .int)))))
  have a3 : ArrOfT s c3 (.array .int) := fun n z => ⟨fun k h => (by cases h), k, h2, comp, h3⟩
  refine ⟨c0, c1, c2, c3, c4, fun k q hq => ?_⟩
  by_cases h : k < 5
  · rcases (by omega : k = 0 ∨ k = 1 ∨ k = 2 ∨ k = 3 ∨ k = 4) with rfl | rfl | rfl | rfl | rfl
    · cases hq; exact ⟨a0, b0⟩
    · cases hq; exact ⟨a1, b1⟩
    · cases hq; exact ⟨a2, b2⟩
    · cases hq; exact ⟨a3, h4⟩
    · cases hq; exact ⟨a4, b4⟩
  · rw [List.getElem?_eq_none (by show 5 ≤ k; omega)] at hq
    cases hq
/-- words of an enumeration, apart by their numbers -/
theorem kn_En {args : Array Value} {s : State} {A : Nat → Prop} (hl : ∀ i, i < tokN.length → (Cond.laysStatic kTk (tokN.getD i "") kTd).before args s = true) (hini : (Cond.initialized kTk).before args s = true)
    (hex : ∀ i, i < tokN.length → (Cond.exactly (kTt i) kTk).before args s = true) (hf : ∀ q ∈ kOrd, ∀ i, i < tokN.length → (Cond.eq (.field (kTt i) q.1 q.2.1 q.2.2.1) (.int (q.2.2.2.getD i 0))).before args s = true)
    (hA : ∀ a : Nat, a < s.heap.size → ¬ A a) : ∃ ad : Nat → Nat, va_En kTk kTd tokN kOrd ad A s s.heap ∧ ∀ i, i < tokN.length → (kTt i).eval args s none [] s = some (.ref (ad i)) := by
  have h0 : ∀ i : Nat, ∃ t : Nat, i < tokN.length → (kTt i).eval args s none [] s = some (.ref t) ∧ va_O kTk t A s s.heap := by
    intro i
    by_cases hi : i < tokN.length
    · obtain ⟨a, c, cell, k, q1, q2, q3, q4, q5, q6, -⟩ := Cond.exactly_spec (hex i hi)
      exact ⟨a, fun _ => ⟨q1, cell, q3, q5, by rw [q6]; exact q2, hA a (Array.getElem?_eq_some_iff.mp q3).1⟩⟩
    · exact ⟨0, fun h => absurd h hi⟩
  obtain ⟨ad, had⟩ := Classical.axiomOfChoice h0
  have hv : ∀ i, i < tokN.length → (Term.field (kTt i) "java/lang/Enum" "ordinal" "I").eval args s none [] s = some (.int (([0, 1, 2, 3, 4, 5, 6, 7, 8, 9, 10, 11, 12, 13, 14, 15, 16, 17, 18, 19] : List Int32).getD i 0)) := fun i hi => va_eqt (hf ("java/lang/Enum", "ordinal", "I", [0, 1, 2, 3, 4, 5, 6, 7, 8, 9, 10, 11, 12, 13, 14, 15, 16, 17, 18, 19]) List.mem_cons_self i hi)
  refine ⟨ad, ⟨fun i hi => ⟨va_Zref (hl i hi) hini (had i hi).1 hA, (had i hi).2, fun q hq => vk_OFof (had i hi).1 (va_eqt (hf q hq i hi)) hA⟩, fun i j hi hj e => ?_⟩, fun i hi => (had i hi).1⟩
  have h1 := hv i hi
  have h2 := hv j hj
  rw [va_fe (had i hi).1] at h1
  rw [va_fe (had j hj).1, ← e, h1] at h2
  have h3 : ([0, 1, 2, 3, 4, 5, 6, 7, 8, 9, 10, 11, 12, 13, 14, 15, 16, 17, 18, 19] : List Int32).getD i 0 = ([0, 1, 2, 3, 4, 5, 6, 7, 8, 9, 10, 11, 12, 13, 14, 15, 16, 17, 18, 19] : List Int32).getD j 0 := Value.int.inj (Option.some.inj h2)
  have key : ∀ i, i < 20 → ∀ j, j < 20 → ([0, 1, 2, 3, 4, 5, 6, 7, 8, 9, 10, 11, 12, 13, 14, 15, 16, 17, 18, 19] : List Int32).getD i 0 = ([0, 1, 2, 3, 4, 5, 6, 7, 8, 9, 10, 11, 12, 13, 14, 15, 16, 17, 18, 19] : List Int32).getD j 0 → i = j := by decide +kernel
  exact key i hi j hj h3
/-- a text -/
theorem kn_Sr {args : Array Value} {s : State} {A : Nat → Prop} (hs : ∀ w ∈ fl1, w.before args s = true) (hA : ∀ a : Nat, a < s.heap.size → ¬ A a) : ∃ q : Nat → Nat × Nat, ∀ i, i < 21 → (kSt i).eval args s none [] s = some (.ref (q i).1) ∧ va_O "java/lang/String" (q i).1 A s s.heap ∧ va_OF "java/lang/String" "coder" "B" (.int 0) (q i).1 A s s.heap ∧ va_OF "java/lang/String" "value" "[B" (.ref (q i).2) (q i).1 A s s.heap ∧ va_T .byte (q i).2 (strB.getD i []).length (fun j => .int ((strB.getD i []).getD j 0)) A s s.heap := by
  have hm : ∀ (i : Nat) {w : Cond}, fl1[i]? = some w → w.before args s = true := fun i w h => hs w (List.mem_of_getElem? h)
  refine Classical.axiomOfChoice (r := fun (i : Nat) (q : Nat × Nat) => i < 21 → (kSt i).eval args s none [] s = some (.ref q.1) ∧ va_O "java/lang/String" q.1 A s s.heap ∧ va_OF "java/lang/String" "coder" "B" (.int 0) q.1 A s s.heap ∧ va_OF "java/lang/String" "value" "[B" (.ref q.2) q.1 A s s.heap ∧ va_T .byte q.2 (strB.getD i []).length (fun j => .int ((strB.getD i []).getD j 0)) A s s.heap) (fun i => ?_)
  by_cases hi : i < 21
  · obtain ⟨w1, w2, w3, w4⟩ := kn_w1 i hi
    have z0 : ∀ {k : Nat}, k < 1 → k = 0 := fun h => Nat.lt_one_iff.mp h
    obtain ⟨adK, adV, hSt, hSe⟩ := vk_Sof (A := A) (s := s) (args := args) (N := 1) (tm := fun _ => kSt i) (len := [(strB.getD i []).length]) (byt := [strB.getD i []]) (fun k h => (by rw [z0 h]; exact kn_w5 i hi)) (fun k h => hm _ w1) (fun k h => hm _ w2) (fun k h => hm _ w3)
      (fun k h => (by rw [z0 h]; exact hm _ w4)) (fun k h j hj => (by rw [z0 h] at hj ⊢; exact hm _ (kn_w2 i hi j hj))) (fun k j h h2 n => absurd ((z0 h).trans (z0 h2).symm) n) hA
    obtain ⟨s1, s2, s3, s4⟩ := hSt.1 0 (by omega)
    exact ⟨(adK 0, adV 0), fun _ => ⟨hSe 0 (by omega), s1, s2, s3, s4⟩⟩
  · exact ⟨(0, 0), fun h => absurd h hi⟩
theorem by_1 (r : Nat) (h : r < 10) : (nI (48 + r)).toInt8.toInt32 = nI (48 + r) := by
  have key : ∀ r, r < 10 → (nI (48 + r)).toInt8.toInt32 = nI (48 + r) := by decide +kernel
  exact key r h
theorem by_s (i j : Nat) : ((strB.getD i []).getD j 0).toInt8.toInt32 = (strB.getD i []).getD j 0 := by
  have key : ∀ l ∈ strB, ∀ x ∈ l, x.toInt8.toInt32 = x := by decide +kernel
  by_cases hi : i < strB.length
  · have hl : strB.getD i [] ∈ strB := by
      rw [List.getD_eq_getElem?_getD, List.getElem?_eq_getElem hi]
      exact List.getElem_mem hi
    by_cases hj : j < (strB.getD i []).length
    · refine key _ hl _ ?_
      rw [List.getD_eq_getElem?_getD (l := strB.getD i []), List.getElem?_eq_getElem hj]
      exact List.getElem_mem hj
    · rw [List.getD_eq_getElem?_getD (l := strB.getD i []), List.getElem?_eq_none (by omega)]
      decide
  · rw [List.getD_eq_getElem?_getD (l := strB), List.getElem?_eq_none (by omega)]
    exact (by decide : (0 : Int32).toInt8.toInt32 = 0)
theorem kn_all {s : State} {b L : Nat} {xs : Nat → Int32} (hw : ∀ w ∈ lw_tbl, w.before #[Value.ref b] s = true) (hs : ∀ w ∈ fl1, w.before #[Value.ref b] s = true) (hX : va_X b L xs s s.heap) (hb : b < s.heap.size) :
    ∃ E : Ev, eH E = s.heap ∧ eX E 24 = b ∧ oS E = oSf L ∧ oI E = oIf xs ∧ oR E = oRf ∧ KU E s := by
  have hA : ∀ a : Nat, a < s.heap.size → ¬ s.heap.size ≤ a := fun a h => Nat.not_le.mpr h
  have hi : ∀ (i : Nat) {w : Cond}, lw_tbl[i]? = some w → w.before #[Value.ref b] s = true := fun i w h => hw w (List.mem_of_getElem? h)
  have hm : ∀ (i : Nat) {w : Cond}, fl1[i]? = some w → w.before #[Value.ref b] s = true := fun i w h => hs w (List.mem_of_getElem? h)
  obtain ⟨D, hD⟩ := kn_cl hw
  obtain ⟨c0, c1, c2, c3, c4, hC⟩ := kn_ty hw
  obtain ⟨tad, hEn, had⟩ := kn_En (A := fun q => s.heap.size ≤ q) (fun i h => hw _ (kn_l i h)) (hi 90 (by decide +kernel)) (fun i h => hs _ (kn_x i h)) (fun q hq i h => hs _ (kn_o q hq i h)) hA
  obtain ⟨sq, hS⟩ := kn_Sr (A := fun q => s.heap.size ≤ q) hs hA
  obtain ⟨t20, ht20, hT20⟩ := va_Tof (A := fun q => s.heap.size ≤ q) (tm := kTs) (ty := .object kTk) (N := 20) (f := fun j => .ref (tad j)) (by decide) (hm _ kn_t.1) (va_eqt (hm _ kn_t.2.1)) (fun j hj => va_eqv (hm _ (kn_t.2.2 j hj)) (had j hj)) hA
  obtain ⟨t21, ht21, hT21⟩ := va_Tof (A := fun q => s.heap.size ≤ q) (tm := kSw) (ty := .int) (N := 20) (f := fun j => .int (swm.getD j 0)) (by decide) (hm _ kn_s.1) (va_eqt (hm _ kn_s.2.1)) (fun j hj => va_eqt (hm _ (kn_s.2.2 j hj))) hA
  obtain ⟨t25, ht25, hT25⟩ := va_Tof (A := fun q => s.heap.size ≤ q) (tm := kKi) (ty := .object "java/lang/String") (N := 4) (f := fun j => .ref (sq (17 + j)).1) (by decide) (hm _ kn_k.1) (va_eqt (hm _ kn_k.2.1)) (fun j hj => va_eqv (hm _ (kn_k.2.2 j hj)) (hS (17 + j) (by omega)).1) hA
  obtain ⟨t26, ht26, hT26⟩ := va_Tof (A := fun q => s.heap.size ≤ q) (tm := kD1) (ty := .byte) (N := 100) (f := fun j => .int (nI (48 + j % 10))) (by decide) (hm _ kn_1.1) (va_eqt (hm _ kn_1.2.1)) (fun j hj => va_eqt (hm _ (kn_1.2.2 j hj))) hA
  obtain ⟨t27, ht27, hT27⟩ := va_Tof (A := fun q => s.heap.size ≤ q) (tm := kD10) (ty := .byte) (N := 100) (f := fun j => .int (nI (48 + j / 10 % 10))) (by decide) (hm _ kn_10.1) (va_eqt (hm _ kn_10.2.1)) (fun j hj => va_eqt (hm _ (kn_10.2.2 j hj))) hA
  obtain ⟨E, hE⟩ : ∃ E : Ev, E = (s.heap, D, (fun i => if i = 0 then c0 else if i = 1 then c1 else if i = 2 then c2 else if i = 3 then c3 else c4), (fun i => if i < 20 then tad i else if i = 20 then t20 else if i = 21 then t21 else if i = 24 then b else if i = 25 then t25 else if i = 26 then t26 else if i = 27 then t27 else if i < 60 then (sq (i - 30)).1 else (sq (i - 60)).2), oSf L, oIf xs, oRf) := ⟨_, rfl⟩
  have x0 : ∀ i, i < 20 → eX E i = tad i := fun i h => by rw [hE]; exact if_pos h
  have x20 : eX E 20 = t20 := by rw [hE]; rfl
  have x21 : eX E 21 = t21 := by rw [hE]; rfl
  have x24 : eX E 24 = b := by rw [hE]; rfl
  have x25 : eX E 25 = t25 := by rw [hE]; rfl
  have x26 : eX E 26 = t26 := by rw [hE]; rfl
  have x27 : eX E 27 = t27 := by rw [hE]; rfl
  have x30 : ∀ i, i < 21 → eX E (30 + i) = (sq i).1 := fun i h => by
    rw [hE]
    show (if 30 + i < 20 then _ else if 30 + i = 20 then _ else if 30 + i = 21 then _ else if 30 + i = 24 then _ else if 30 + i = 25 then _ else if 30 + i = 26 then _ else if 30 + i = 27 then _ else if 30 + i < 60 then (sq (30 + i - 30)).1 else _) = _
    rw [if_neg (by omega), if_neg (by omega), if_neg (by omega), if_neg (by omega), if_neg (by omega), if_neg (by omega), if_neg (by omega), if_pos (by omega), Nat.add_sub_cancel_left]
  have x60 : ∀ i, i < 21 → eX E (60 + i) = (sq i).2 := fun i h => by
    rw [hE]
    show (if 60 + i < 20 then _ else if 60 + i = 20 then _ else if 60 + i = 21 then _ else if 60 + i = 24 then _ else if 60 + i = 25 then _ else if 60 + i = 26 then _ else if 60 + i = 27 then _ else if 60 + i < 60 then _ else (sq (60 + i - 60)).2) = _
    rw [if_neg (by omega), if_neg (by omega), if_neg (by omega), if_neg (by omega), if_neg (by omega), if_neg (by omega), if_neg (by omega), if_neg (by omega), Nat.add_sub_cancel_left]
  have xH : eH E = s.heap := by rw [hE]; rfl
  have xF : eF E = fun q => s.heap.size ≤ q := by unfold eF; rw [xH]
  have oS1 : oS E = oSf L := by rw [hE]; rfl
  have oI1 : oI E = oIf xs := by rw [hE]; rfl
  have oR1 : oR E = oRf := by rw [hE]; rfl
  have adx : ∀ a, 1000 ≤ a → a < 2000 → ad E a = eX E (a - 1000) := fun a h1 h2 => by
    unfold ad
    rw [if_neg (by omega), if_pos h2]
  refine ⟨E, xH, x24, oS1, oI1, oR1, ⟨?_, ?_⟩⟩
  · rw [hE]
    exact ⟨hD, hC⟩
  · have hAO : xAO s := hw _ (List.mem_of_getElem? (i := 360) (by decide +kernel : lw_tbl[360]? = some (.arrayOver (.array .int))))
    have hout : ∀ a, 1000 ≤ a → a < 2000 → outF E a s := fun a h1 h2 => by
      unfold outF
      rw [oS1, oI1, oR1, xF, xH, adx a h1 h2]
      refine ⟨fun e => ?_, fun e => ?_, fun e => ?_, fun e => ?_⟩
      · have ha : a = 1024 := by
          unfold oSf at e
          apply Classical.byContradiction
          intro z
          rw [if_neg z] at e
          split at e <;> first | cases e | skip
          split at e <;> first | cases e | skip
          split at e <;> first | cases e | skip
          split at e <;> cases e
        subst ha
        obtain ⟨cell, g1, g2, g3, g4, g5⟩ := hX
        show va_T .int (eX E 24) L (fun j => .int (xs j)) (fun q => s.heap.size ≤ q) s s.heap
        rw [x24]
        exact ⟨cell, g1, g2, g3, Nat.le_of_eq g4.symm, by rw [g4], g5, hA b hb⟩
      · have ha : a = 1026 ∨ a = 1027 ∨ (1060 ≤ a ∧ a < 1081) := by
          unfold oSf at e
          apply Classical.byContradiction
          intro z
          by_cases z1 : a = 1024
          · rw [if_pos z1] at e; cases e
          rw [if_neg z1] at e
          by_cases z2 : a = 1025
          · rw [if_pos z2] at e; cases e
          rw [if_neg z2, if_neg (by omega)] at e
          by_cases z3 : 1030 ≤ a ∧ a < 1051
          · rw [if_pos z3] at e; cases e
          rw [if_neg z3, if_neg (by omega)] at e
          cases e
        rcases ha with rfl | rfl | ⟨ha1, ha2⟩
        · refine ⟨?_, fun j => by_1 _ (Nat.mod_lt _ (by decide))⟩
          show va_T .byte (eX E 26) 100 (fun j => .int (nI (48 + j % 10))) (fun q => s.heap.size ≤ q) s s.heap
          rw [x26]; exact hT26
        · refine ⟨?_, fun j => by_1 _ (Nat.mod_lt _ (by decide))⟩
          show va_T .byte (eX E 27) 100 (fun j => .int (nI (48 + j / 10 % 10))) (fun q => s.heap.size ≤ q) s s.heap
          rw [x27]; exact hT27
        · obtain ⟨i, rfl⟩ : ∃ i, a = 1060 + i := ⟨a - 1060, by omega⟩
          have hi21 : i < 21 := by omega
          have eo : ∀ j, oIf xs (1060 + i) j = (strB.getD i []).getD j 0 := fun j => by
            unfold oIf
            rw [if_neg (by omega), if_neg (by omega), if_neg (by omega), if_pos ⟨by omega, by omega⟩, Nat.add_sub_cancel_left]
          have es : (oSf L (1060 + i)).2 = (strB.getD i []).length := by
            unfold oSf
            rw [if_neg (by omega), if_neg (by omega), if_neg (by omega), if_neg (by omega), if_pos ⟨by omega, by omega⟩, Nat.add_sub_cancel_left]
          refine ⟨?_, fun j => by rw [eo]; exact by_s i j⟩
          rw [es, show 1060 + i - 1000 = 60 + i by omega, x60 i hi21]
          exact va_Tf (hS i hi21).2.2.2.2 (fun j _ => by rw [eo])
      · have ha : 1030 ≤ a ∧ a < 1051 := by
          unfold oSf at e
          apply Classical.byContradiction
          intro z
          by_cases z1 : a = 1024
          · rw [if_pos z1] at e; cases e
          rw [if_neg z1] at e
          by_cases z2 : a = 1025
          · rw [if_pos z2] at e; cases e
          rw [if_neg z2] at e
          by_cases z3 : a = 1026 ∨ a = 1027
          · rw [if_pos z3] at e; cases e
          rw [if_neg z3, if_neg z] at e
          by_cases z4 : 1060 ≤ a ∧ a < 1081
          · rw [if_pos z4] at e; cases e
          rw [if_neg z4] at e
          cases e
        obtain ⟨i, rfl⟩ : ∃ i, a = 1030 + i := ⟨a - 1030, by omega⟩
        have hi21 : i < 21 := by omega
        obtain ⟨g0, g1, g2, g3, g4⟩ := hS i hi21
        have er : rv0 E (oRf (1030 + i) 0) = .ref (sq i).2 := by
          have e1 : oRf (1030 + i) 0 = 1060 + i := by
            unfold oRf
            rw [if_neg (by omega), if_pos ⟨by omega, by omega⟩]
            omega
          rw [e1, rv0_s (by omega), adx _ (by omega) (by omega), show 1060 + i - 1000 = 60 + i by omega, x60 i hi21]
        rw [er, show 1030 + i - 1000 = 30 + i by omega, x30 i hi21]
        exact ⟨g1, g3, g2⟩
      · have ha : a = 1025 := by
          unfold oSf at e
          apply Classical.byContradiction
          intro z
          by_cases z1 : a = 1024
          · rw [if_pos z1] at e; cases e
          rw [if_neg z1, if_neg z] at e
          by_cases z3 : a = 1026 ∨ a = 1027
          · rw [if_pos z3] at e; cases e
          rw [if_neg z3] at e
          by_cases z5 : 1030 ≤ a ∧ a < 1051
          · rw [if_pos z5] at e; cases e
          rw [if_neg z5] at e
          by_cases z4 : 1060 ≤ a ∧ a < 1081
          · rw [if_pos z4] at e; cases e
          rw [if_neg z4] at e
          cases e
        subst ha
        show va_T (.object "java/lang/String") (eX E 25) 4 (fun j => rv0 E (1047 + j)) (fun q => s.heap.size ≤ q) s s.heap
        rw [x25]
        refine va_Tf hT25 (fun j hj => ?_)
        rw [rv0_s (by omega), adx _ (by omega) (by omega), show 1047 + j - 1000 = 30 + (17 + j) by omega, x30 (17 + j) (by omega)]
    unfold KX
    rw [xF, xH, x20, x21, x25, x26, x27]
    refine ⟨⟨fun i h => by rw [x0 i h]; exact hEn.1 i h, fun i j h k e => hEn.2 i j h k (by rw [← x0 i h, ← x0 j k]; exact e)⟩, fun i h => ?_, va_Zref (hi 1028 (by decide +kernel)) (hi 88 (by decide +kernel)) ht20 hA, va_Tf hT20 (fun j hj => by rw [x0 j hj]), va_Zref (hi 1047 (by decide +kernel)) (hi 106 (by decide +kernel)) ht21 hA, hT21,
      va_Zof (hi 665 (by decide +kernel)) (hi 96 (by decide +kernel)) (va_eqi (hs _ kn_r.1)) hA, va_Zqof (hi 752 (by decide +kernel)) (hi 102 (by decide +kernel)) (hs _ kn_r.2) hA, va_Zref (hi 954 (by decide +kernel)) (hi 85 (by decide +kernel)) ht25 hA, va_Zref (hi 825 (by decide +kernel)) (hi 105 (by decide +kernel)) ht26 hA, va_Zref (hi 827 (by decide +kernel)) (hi 105 (by decide +kernel)) ht27 hA, fun q hq => ?_, hout, hAO, fun w h => va_Nw.of (nest_t (List.mem_filter.mp h).2) (hw w (List.mem_filter.mp h).1)⟩
    · rw [x0 i h]
      exact vk_OFof (had i h) (va_eqv (hs _ (kn_c i h)) rfl) hA
    · obtain ⟨i, h21, rfl⟩ := kn_w4 q hq
      rw [x30 i h21]
      exact vk_R.of (hi _ (kn_w3 i h21)) (hS i h21).1

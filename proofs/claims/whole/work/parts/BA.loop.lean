/-! THE LAW'S LOOP -/
section
variable {E : Ev} {p : Program} {l : Launch} {e : Env} {s : State} {m : MethodId} {args : Array Value} {below : List Frame} {meth : Method} {c : Code} {Q : State → Prop}
theorem inS_of {j : Nat} (h : 6 * j + 6 ≤ eL E) (hL : eL E ≤ 3072) : InS E (nI (6 * j)) ∧ inb (nI (6 * j)) (eL E) = true := by
  refine ⟨⟨?_, ?_, ?_, ?_, ?_⟩, inbn (by omega) (by omega)⟩
  · rw [add_nI_1]; exact inbn (by omega) (by omega)
  · rw [add_nI_2]; exact inbn (by omega) (by omega)
  · rw [add_nI_3]; exact inbn (by omega) (by omega)
  · rw [add_nI_4]; exact inbn (by omega) (by omega)
  · rw [add_nI_5]; exact inbn (by omega) (by omega)
theorem lp_out {n L : Nat} (h1 : L ≤ 6 * n + 5) (h2 : L ≤ 3072) (h3 : 6 * n ≤ L) : nI L - 6 < nI (6 * n) := by
  have a : (nI L).toInt = L := nI_i (by omega)
  have b : (nI (6 * n)).toInt = ((6 * n : Nat) : Int) := nI_i (by omega)
  have d : (6 : Int32).toInt = 6 := by decide
  rw [Int32.lt_iff_toInt_lt, w_sub (by rw [a, d]; omega) (by rw [a, d]; omega), a, b, d]
  omega
theorem k_switch (C : Cx E p s m args meth c RL cL_law 7) (hV : KV E s) (hf : l.stackTraces = false) {i v : Int32} (hi : InS E i) {kc ks : Nat} {σ : Sg} (hj : Jx σ) (hR : kc + 1 ≤ 601024 ∧ ks + 6 ≤ 7293034) (kk : ∀ ω, Jx ω → X E p l e room_1 s m args below meth c Q 7 (kc + 1) (ks + 6) ω 1568 (LL E i) []) : X E p l e room_1 s m args below meth c Q 7 kc ks σ 40 (LL E i) [.int v] := by
  refine br_em (c := v = 0) (fun q0 => ?_) (fun q0 => ?_)
  · refine x_switchIn (pc := 40) (tgt := 208) C dL_law_40 (by rw [q0]; decide) (by rw [q0]; decide) (o := 168) (by rw [q0]; rfl) (by decide) ?_
    exact k_208 C hV hf hi hj hR kk
  refine br_em (c := v = 1) (fun q1 => ?_) (fun q1 => ?_)
  · refine x_switchIn (pc := 40) (tgt := 281) C dL_law_40 (by rw [q1]; decide) (by rw [q1]; decide) (o := 241) (by rw [q1]; rfl) (by decide) ?_
    exact k_281 C hV hf hi hj hR kk
  refine br_em (c := v = 2) (fun q2 => ?_) (fun q2 => ?_)
  · refine x_switchIn (pc := 40) (tgt := 306) C dL_law_40 (by rw [q2]; decide) (by rw [q2]; decide) (o := 266) (by rw [q2]; rfl) (by decide) ?_
    exact k_306 C hV hf hi hj hR kk
  refine br_em (c := v = 3) (fun q3 => ?_) (fun q3 => ?_)
  · refine x_switchIn (pc := 40) (tgt := 331) C dL_law_40 (by rw [q3]; decide) (by rw [q3]; decide) (o := 291) (by rw [q3]; rfl) (by decide) ?_
    exact k_331 C hV hf hi hj hR kk
  refine br_em (c := v = 4) (fun q4 => ?_) (fun q4 => ?_)
  · refine x_switchIn (pc := 40) (tgt := 368) C dL_law_40 (by rw [q4]; decide) (by rw [q4]; decide) (o := 328) (by rw [q4]; rfl) (by decide) ?_
    exact k_368 C hV hf hi hj hR kk
  refine br_em (c := v = 5) (fun q5 => ?_) (fun q5 => ?_)
  · refine x_switchIn (pc := 40) (tgt := 417) C dL_law_40 (by rw [q5]; decide) (by rw [q5]; decide) (o := 377) (by rw [q5]; rfl) (by decide) ?_
    exact k_417 C hV hf hi hj hR kk
  refine br_em (c := v = 6) (fun q6 => ?_) (fun q6 => ?_)
  · refine x_switchIn (pc := 40) (tgt := 442) C dL_law_40 (by rw [q6]; decide) (by rw [q6]; decide) (o := 402) (by rw [q6]; rfl) (by decide) ?_
    exact k_442 C hV hf hi hj hR kk
  refine br_em (c := v = 7) (fun q7 => ?_) (fun q7 => ?_)
  · refine x_switchIn (pc := 40) (tgt := 491) C dL_law_40 (by rw [q7]; decide) (by rw [q7]; decide) (o := 451) (by rw [q7]; rfl) (by decide) ?_
    exact k_491 C hV hf hi hj hR kk
  refine br_em (c := v = 8) (fun q8 => ?_) (fun q8 => ?_)
  · refine x_switchIn (pc := 40) (tgt := 559) C dL_law_40 (by rw [q8]; decide) (by rw [q8]; decide) (o := 519) (by rw [q8]; rfl) (by decide) ?_
    exact k_559 C hV hf hi hj hR kk
  refine br_em (c := v = 9) (fun q9 => ?_) (fun q9 => ?_)
  · refine x_switchIn (pc := 40) (tgt := 627) C dL_law_40 (by rw [q9]; decide) (by rw [q9]; decide) (o := 587) (by rw [q9]; rfl) (by decide) ?_
    exact k_627 C hV hf hi hj hR kk
  refine br_em (c := v = 10) (fun q10 => ?_) (fun q10 => ?_)
  · refine x_switchIn (pc := 40) (tgt := 676) C dL_law_40 (by rw [q10]; decide) (by rw [q10]; decide) (o := 636) (by rw [q10]; rfl) (by decide) ?_
    exact k_676 C hV hf hi hj hR kk
  refine br_em (c := v = 11) (fun q11 => ?_) (fun q11 => ?_)
  · refine x_switchIn (pc := 40) (tgt := 713) C dL_law_40 (by rw [q11]; decide) (by rw [q11]; decide) (o := 673) (by rw [q11]; rfl) (by decide) ?_
    exact k_713 C hV hf hi hj hR kk
  refine br_em (c := v = 12) (fun q12 => ?_) (fun q12 => ?_)
  · refine x_switchIn (pc := 40) (tgt := 750) C dL_law_40 (by rw [q12]; decide) (by rw [q12]; decide) (o := 710) (by rw [q12]; rfl) (by decide) ?_
    exact k_750 C hV hf hi hj hR kk
  refine br_em (c := v = 13) (fun q13 => ?_) (fun q13 => ?_)
  · refine x_switchIn (pc := 40) (tgt := 775) C dL_law_40 (by rw [q13]; decide) (by rw [q13]; decide) (o := 735) (by rw [q13]; rfl) (by decide) ?_
    exact k_775 C hV hf hi hj hR kk
  refine br_em (c := v = 14) (fun q14 => ?_) (fun q14 => ?_)
  · refine x_switchIn (pc := 40) (tgt := 800) C dL_law_40 (by rw [q14]; decide) (by rw [q14]; decide) (o := 760) (by rw [q14]; rfl) (by decide) ?_
    exact k_800 C hV hf hi hj hR kk
  refine br_em (c := v = 15) (fun q15 => ?_) (fun q15 => ?_)
  · refine x_switchIn (pc := 40) (tgt := 837) C dL_law_40 (by rw [q15]; decide) (by rw [q15]; decide) (o := 797) (by rw [q15]; rfl) (by decide) ?_
    exact k_837 C hV hf hi hj hR kk
  refine br_em (c := v = 16) (fun q16 => ?_) (fun q16 => ?_)
  · refine x_switchIn (pc := 40) (tgt := 874) C dL_law_40 (by rw [q16]; decide) (by rw [q16]; decide) (o := 834) (by rw [q16]; rfl) (by decide) ?_
    exact k_874 C hV hf hi hj hR kk
  refine br_em (c := v = 17) (fun q17 => ?_) (fun q17 => ?_)
  · refine x_switchIn (pc := 40) (tgt := 923) C dL_law_40 (by rw [q17]; decide) (by rw [q17]; decide) (o := 883) (by rw [q17]; rfl) (by decide) ?_
    exact k_923 C hV hf hi hj hR kk
  refine br_em (c := v = 18) (fun q18 => ?_) (fun q18 => ?_)
  · refine x_switchIn (pc := 40) (tgt := 948) C dL_law_40 (by rw [q18]; decide) (by rw [q18]; decide) (o := 908) (by rw [q18]; rfl) (by decide) ?_
    exact k_948 C hV hf hi hj hR kk
  refine br_em (c := v = 19) (fun q19 => ?_) (fun q19 => ?_)
  · refine x_switchIn (pc := 40) (tgt := 985) C dL_law_40 (by rw [q19]; decide) (by rw [q19]; decide) (o := 945) (by rw [q19]; rfl) (by decide) ?_
    exact k_985 C hV hf hi hj hR kk
  refine br_em (c := v = 20) (fun q20 => ?_) (fun q20 => ?_)
  · refine x_switchIn (pc := 40) (tgt := 1022) C dL_law_40 (by rw [q20]; decide) (by rw [q20]; decide) (o := 982) (by rw [q20]; rfl) (by decide) ?_
    exact k_1022 C hV hf hi hj hR kk
  refine br_em (c := v = 21) (fun q21 => ?_) (fun q21 => ?_)
  · refine x_switchIn (pc := 40) (tgt := 1071) C dL_law_40 (by rw [q21]; decide) (by rw [q21]; decide) (o := 1031) (by rw [q21]; rfl) (by decide) ?_
    exact k_1071 C hV hf hi hj hR kk
  refine br_em (c := v = 22) (fun q22 => ?_) (fun q22 => ?_)
  · refine x_switchIn (pc := 40) (tgt := 1096) C dL_law_40 (by rw [q22]; decide) (by rw [q22]; decide) (o := 1056) (by rw [q22]; rfl) (by decide) ?_
    exact k_1096 C hV hf hi hj hR kk
  refine br_em (c := v = 23) (fun q23 => ?_) (fun q23 => ?_)
  · refine x_switchIn (pc := 40) (tgt := 1109) C dL_law_40 (by rw [q23]; decide) (by rw [q23]; decide) (o := 1069) (by rw [q23]; rfl) (by decide) ?_
    exact k_1109 C hV hf hi hj hR kk
  refine br_em (c := v = 24) (fun q24 => ?_) (fun q24 => ?_)
  · refine x_switchIn (pc := 40) (tgt := 1122) C dL_law_40 (by rw [q24]; decide) (by rw [q24]; decide) (o := 1082) (by rw [q24]; rfl) (by decide) ?_
    exact k_1122 C hV hf hi hj hR kk
  refine br_em (c := v = 25) (fun q25 => ?_) (fun q25 => ?_)
  · refine x_switchIn (pc := 40) (tgt := 1159) C dL_law_40 (by rw [q25]; decide) (by rw [q25]; decide) (o := 1119) (by rw [q25]; rfl) (by decide) ?_
    exact k_1159 C hV hf hi hj hR kk
  refine br_em (c := v = 26) (fun q26 => ?_) (fun q26 => ?_)
  · refine x_switchIn (pc := 40) (tgt := 1184) C dL_law_40 (by rw [q26]; decide) (by rw [q26]; decide) (o := 1144) (by rw [q26]; rfl) (by decide) ?_
    exact k_1184 C hV hf hi hj hR kk
  refine br_em (c := v = 27) (fun q27 => ?_) (fun q27 => ?_)
  · refine x_switchIn (pc := 40) (tgt := 1209) C dL_law_40 (by rw [q27]; decide) (by rw [q27]; decide) (o := 1169) (by rw [q27]; rfl) (by decide) ?_
    exact k_1209 C hV hf hi hj hR kk
  refine br_em (c := v = 28) (fun q28 => ?_) (fun q28 => ?_)
  · refine x_switchIn (pc := 40) (tgt := 1222) C dL_law_40 (by rw [q28]; decide) (by rw [q28]; decide) (o := 1182) (by rw [q28]; rfl) (by decide) ?_
    exact k_1222 C hV hf hi hj hR kk
  refine br_em (c := v = 29) (fun q29 => ?_) (fun q29 => ?_)
  · refine x_switchIn (pc := 40) (tgt := 1259) C dL_law_40 (by rw [q29]; decide) (by rw [q29]; decide) (o := 1219) (by rw [q29]; rfl) (by decide) ?_
    exact k_1259 C hV hf hi hj hR kk
  refine br_em (c := v = 30) (fun q30 => ?_) (fun q30 => ?_)
  · refine x_switchIn (pc := 40) (tgt := 1308) C dL_law_40 (by rw [q30]; decide) (by rw [q30]; decide) (o := 1268) (by rw [q30]; rfl) (by decide) ?_
    exact k_1308 C hV hf hi hj hR kk
  refine br_em (c := v = 31) (fun q31 => ?_) (fun q31 => ?_)
  · refine x_switchIn (pc := 40) (tgt := 1357) C dL_law_40 (by rw [q31]; decide) (by rw [q31]; decide) (o := 1317) (by rw [q31]; rfl) (by decide) ?_
    exact k_1357 C hV hf hi hj hR kk
  refine br_em (c := v = 32) (fun q32 => ?_) (fun q32 => ?_)
  · refine x_switchIn (pc := 40) (tgt := 1394) C dL_law_40 (by rw [q32]; decide) (by rw [q32]; decide) (o := 1354) (by rw [q32]; rfl) (by decide) ?_
    exact k_1394 C hV hf hi hj hR kk
  refine br_em (c := v = 33) (fun q33 => ?_) (fun q33 => ?_)
  · refine x_switchIn (pc := 40) (tgt := 1419) C dL_law_40 (by rw [q33]; decide) (by rw [q33]; decide) (o := 1379) (by rw [q33]; rfl) (by decide) ?_
    exact k_1419 C hV hf hi hj hR kk
  refine br_em (c := v = 34) (fun q34 => ?_) (fun q34 => ?_)
  · refine x_switchIn (pc := 40) (tgt := 1444) C dL_law_40 (by rw [q34]; decide) (by rw [q34]; decide) (o := 1404) (by rw [q34]; rfl) (by decide) ?_
    exact k_1444 C hV hf hi hj hR kk
  refine br_em (c := v = 35) (fun q35 => ?_) (fun q35 => ?_)
  · refine x_switchIn (pc := 40) (tgt := 1481) C dL_law_40 (by rw [q35]; decide) (by rw [q35]; decide) (o := 1441) (by rw [q35]; rfl) (by decide) ?_
    exact k_1481 C hV hf hi hj hR kk
  refine br_em (c := v = 36) (fun q36 => ?_) (fun q36 => ?_)
  · refine x_switchIn (pc := 40) (tgt := 1518) C dL_law_40 (by rw [q36]; decide) (by rw [q36]; decide) (o := 1478) (by rw [q36]; rfl) (by decide) ?_
    exact k_1518 C hV hf hi hj hR kk
  refine br_em (c := v = 37) (fun q37 => ?_) (fun q37 => ?_)
  · refine x_switchIn (pc := 40) (tgt := 1543) C dL_law_40 (by rw [q37]; decide) (by rw [q37]; decide) (o := 1503) (by rw [q37]; rfl) (by decide) ?_
    exact k_1543 C hV hf hi hj hR kk
  have e0 := sw_ne (k := 0) q0 (by decide)
  have e1 := sw_ne (k := 1) q1 (by decide)
  have e2 := sw_ne (k := 2) q2 (by decide)
  have e3 := sw_ne (k := 3) q3 (by decide)
  have e4 := sw_ne (k := 4) q4 (by decide)
  have e5 := sw_ne (k := 5) q5 (by decide)
  have e6 := sw_ne (k := 6) q6 (by decide)
  have e7 := sw_ne (k := 7) q7 (by decide)
  have e8 := sw_ne (k := 8) q8 (by decide)
  have e9 := sw_ne (k := 9) q9 (by decide)
  have e10 := sw_ne (k := 10) q10 (by decide)
  have e11 := sw_ne (k := 11) q11 (by decide)
  have e12 := sw_ne (k := 12) q12 (by decide)
  have e13 := sw_ne (k := 13) q13 (by decide)
  have e14 := sw_ne (k := 14) q14 (by decide)
  have e15 := sw_ne (k := 15) q15 (by decide)
  have e16 := sw_ne (k := 16) q16 (by decide)
  have e17 := sw_ne (k := 17) q17 (by decide)
  have e18 := sw_ne (k := 18) q18 (by decide)
  have e19 := sw_ne (k := 19) q19 (by decide)
  have e20 := sw_ne (k := 20) q20 (by decide)
  have e21 := sw_ne (k := 21) q21 (by decide)
  have e22 := sw_ne (k := 22) q22 (by decide)
  have e23 := sw_ne (k := 23) q23 (by decide)
  have e24 := sw_ne (k := 24) q24 (by decide)
  have e25 := sw_ne (k := 25) q25 (by decide)
  have e26 := sw_ne (k := 26) q26 (by decide)
  have e27 := sw_ne (k := 27) q27 (by decide)
  have e28 := sw_ne (k := 28) q28 (by decide)
  have e29 := sw_ne (k := 29) q29 (by decide)
  have e30 := sw_ne (k := 30) q30 (by decide)
  have e31 := sw_ne (k := 31) q31 (by decide)
  have e32 := sw_ne (k := 32) q32 (by decide)
  have e33 := sw_ne (k := 33) q33 (by decide)
  have e34 := sw_ne (k := 34) q34 (by decide)
  have e35 := sw_ne (k := 35) q35 (by decide)
  have e36 := sw_ne (k := 36) q36 (by decide)
  have e37 := sw_ne (k := 37) q37 (by decide)
  refine x_switchOut (pc := 40) (tgt := 1568) C dL_law_40 (by omega) (by decide) ?_
  exact x_wide (by omega) (by omega) (kk σ hj)
theorem law_loop (C : Cx E p s m args meth c RL cL_law 7) (hV : KV E s) (hf : l.stackTraces = false) (hL : eL E ≤ 3072) (hend : ∀ (kc ks : Nat) (σ : Sg) (L : List (Option Value)), kc ≤ 601024 → ks ≤ 7293034 → X E p l e room_1 s m args below meth c Q 7 kc ks σ 1575 L [.int 1]) :
    ∀ (d j kc ks : Nat) (σ : Sg), eL E ≤ 6 * j + 6 * d + 5 → 6 * j ≤ eL E → kc + d ≤ 601024 → ks + 6 * d ≤ 7293034 → Jx σ → X E p l e room_1 s m args below meth c Q 7 kc ks σ 23 (LL E (nI (6 * j))) [] := by
  intro d
  induction d with
  | zero =>
    intro j kc ks σ h1 h2 h3 h4 hj
    refine x_iload (pc := 23) C dL_law_23 rfl ?_
    refine x_aload_n (pc := 25) C dL_law_25 rfl rfl ?_
    refine x_slen (pc := 26) C dL_law_26 ?_
    refine x_bipush (v := 6) (pc := 27) C dL_law_27 (by decide) ?_
    refine x_isub (pc := 29) C dL_law_29 ?_
    refine x_icmp_gt (pc := 30) (tgt := 1574) C dL_law_30 (by decide) (fun q => ?_) (fun q => ?_)
    · refine x_iconst (v := 1) (pc := 1574) C dL_law_1574 (by decide) ?_
      exact hend kc ks σ _ (by omega) (by omega)
    · exact absurd (lp_out (by omega) (by omega) (by omega)) q
  | succ d ih =>
    intro j kc ks σ h1 h2 h3 h4 hj
    refine x_iload (pc := 23) C dL_law_23 rfl ?_
    refine x_aload_n (pc := 25) C dL_law_25 rfl rfl ?_
    refine x_slen (pc := 26) C dL_law_26 ?_
    refine x_bipush (v := 6) (pc := 27) C dL_law_27 (by decide) ?_
    refine x_isub (pc := 29) C dL_law_29 ?_
    refine x_icmp_gt (pc := 30) (tgt := 1574) C dL_law_30 (by decide) (fun q => ?_) (fun q => ?_)
    · refine x_iconst (v := 1) (pc := 1574) C dL_law_1574 (by decide) ?_
      exact hend kc ks σ _ (by omega) (by omega)
    · have h6 : 6 * j + 6 ≤ eL E := by
        rcases Nat.lt_or_ge (eL E) (6 * j + 6) with z | z
        · exact absurd (lp_out (by omega) (by omega) (by omega)) q
        · exact z
      obtain ⟨hi, h0⟩ := inS_of h6 hL
      refine x_aload_n (pc := 33) C dL_law_33 rfl rfl ?_
      refine x_iload (pc := 34) C dL_law_34 rfl ?_
      refine x_sld (pc := 36) C h0 dL_law_36 ?_
      refine x_bipush (v := 63) (pc := 37) C dL_law_37 (by decide) ?_
      refine x_iand (pc := 39) C dL_law_39 ?_
      refine k_switch C hV hf hi hj ⟨by omega, by omega⟩ (fun ω hw => ?_)
      refine x_iinc (v := 6) (pc := 1568) (M := LL E (nI (6 * j) + 6)) C dL_law_1568 rfl (by decide) (by decide) rfl ?_
      refine x_goto (pc := 1571) (tgt := 23) C dL_law_1571 (by decide) ?_
      rw [show nI (6 * j) + 6 = nI (6 * (j + 1)) from add_nI_6 _]
      exact ih (j + 1) (kc + 1) (ks + 6) ω (by omega) (by omega) (by omega) (by omega) hw
end

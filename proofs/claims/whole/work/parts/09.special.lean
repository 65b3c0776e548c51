/-! the sorts of objects, the tables' words that are asked everywhere, the words of the text, the list of words, words of the JDK -/
def lyp0 : List Nat := [260, 262, 264, 266, 268, 270, 272, 274, 276, 278, 280, 282, 284, 286, 288, 290, 292, 294, 296, 298]
theorem cl0_in : ∀ w ∈ u_ws RX1 TX1 20, w ∈ tblG := by
  have h : u_ws RX1 TX1 20 = lyp0.filterMap (fun i => lw_tbl[i]?) := by decide +kernel
  have hg : (u_ws RX1 TX1 20).all goodWord = true := by decide +kernel
  intro w hw
  refine List.mem_filter.mpr ⟨?_, List.all_eq_true.mp hg w hw⟩
  rw [h] at hw
  obtain ⟨i, -, hi⟩ := List.mem_filterMap.mp hw
  exact List.mem_of_getElem? hi
theorem cl0 : clK 0 RX1 TX1 20 := ⟨rfl, cl0_in, tyX1_ok, nmX1⟩
theorem df0 : ∀ k, k < 20 → defaultValue (fty 0 k) = dfv (fty 0 k) := by
  have h : (List.range 20).all (fun k => decide (defaultValue (fty 0 k) = dfv (fty 0 k))) = true := by decide +kernel
  intro k hk
  exact of_decide_eq_true (List.all_eq_true.mp h k (List.mem_range.mpr hk))
def lyp1 : List Nat := [376, 378, 380, 382, 384, 386, 388, 390, 392, 394, 396]
theorem cl1_in : ∀ w ∈ u_ws RX2 TX2 11, w ∈ tblG := by
  have h : u_ws RX2 TX2 11 = lyp1.filterMap (fun i => lw_tbl[i]?) := by decide +kernel
  have hg : (u_ws RX2 TX2 11).all goodWord = true := by decide +kernel
  intro w hw
  refine List.mem_filter.mpr ⟨?_, List.all_eq_true.mp hg w hw⟩
  rw [h] at hw
  obtain ⟨i, -, hi⟩ := List.mem_filterMap.mp hw
  exact List.mem_of_getElem? hi
theorem cl1 : clK 1 RX2 TX2 11 := ⟨rfl, cl1_in, tyX2_ok, nmX2⟩
theorem df1 : ∀ k, k < 11 → defaultValue (fty 1 k) = dfv (fty 1 k) := by
  have h : (List.range 11).all (fun k => decide (defaultValue (fty 1 k) = dfv (fty 1 k))) = true := by decide +kernel
  intro k hk
  exact of_decide_eq_true (List.all_eq_true.mp h k (List.mem_range.mpr hk))
def lyp2 : List Nat := [324, 326, 328, 330, 332, 334, 336, 338, 340, 342, 344]
theorem cl2_in : ∀ w ∈ u_ws RX3 TX3 11, w ∈ tblG := by
  have h : u_ws RX3 TX3 11 = lyp2.filterMap (fun i => lw_tbl[i]?) := by decide +kernel
  have hg : (u_ws RX3 TX3 11).all goodWord = true := by decide +kernel
  intro w hw
  refine List.mem_filter.mpr ⟨?_, List.all_eq_true.mp hg w hw⟩
  rw [h] at hw
  obtain ⟨i, -, hi⟩ := List.mem_filterMap.mp hw
  exact List.mem_of_getElem? hi
theorem cl2 : clK 2 RX3 TX3 11 := ⟨rfl, cl2_in, tyX3_ok, nmX3⟩
theorem df2 : ∀ k, k < 11 → defaultValue (fty 2 k) = dfv (fty 2 k) := by
  have h : (List.range 11).all (fun k => decide (defaultValue (fty 2 k) = dfv (fty 2 k))) = true := by decide +kernel
  intro k hk
  exact of_decide_eq_true (List.all_eq_true.mp h k (List.mem_range.mpr hk))
def lyp3 : List Nat := [484, 486, 488]
theorem cl3_in : ∀ w ∈ u_ws RX4 TX4 3, w ∈ tblG := by
  have h : u_ws RX4 TX4 3 = lyp3.filterMap (fun i => lw_tbl[i]?) := by decide +kernel
  have hg : (u_ws RX4 TX4 3).all goodWord = true := by decide +kernel
  intro w hw
  refine List.mem_filter.mpr ⟨?_, List.all_eq_true.mp hg w hw⟩
  rw [h] at hw
  obtain ⟨i, -, hi⟩ := List.mem_filterMap.mp hw
  exact List.mem_of_getElem? hi
theorem cl3 : clK 3 RX4 TX4 3 := ⟨rfl, cl3_in, tyX4_ok, nmX4⟩
theorem df3 : ∀ k, k < 3 → defaultValue (fty 3 k) = dfv (fty 3 k) := by
  have h : (List.range 3).all (fun k => decide (defaultValue (fty 3 k) = dfv (fty 3 k))) = true := by decide +kernel
  intro k hk
  exact of_decide_eq_true (List.all_eq_true.mp h k (List.mem_range.mpr hk))
def lyp4 : List Nat := [435, 437, 439, 441, 443, 445, 447, 449, 451, 453, 455, 457, 459, 461, 463, 465, 467, 469]
theorem cl4_in : ∀ w ∈ u_ws RX5 TX5 18, w ∈ tblG := by
  have h : u_ws RX5 TX5 18 = lyp4.filterMap (fun i => lw_tbl[i]?) := by decide +kernel
  have hg : (u_ws RX5 TX5 18).all goodWord = true := by decide +kernel
  intro w hw
  refine List.mem_filter.mpr ⟨?_, List.all_eq_true.mp hg w hw⟩
  rw [h] at hw
  obtain ⟨i, -, hi⟩ := List.mem_filterMap.mp hw
  exact List.mem_of_getElem? hi
theorem cl4 : clK 4 RX5 TX5 18 := ⟨rfl, cl4_in, tyX5_ok, nmX5⟩
theorem df4 : ∀ k, k < 18 → defaultValue (fty 4 k) = dfv (fty 4 k) := by
  have h : (List.range 18).all (fun k => decide (defaultValue (fty 4 k) = dfv (fty 4 k))) = true := by decide +kernel
  intro k hk
  exact of_decide_eq_true (List.all_eq_true.mp h k (List.mem_range.mpr hk))
def lyp5 : List Nat := [501, 503, 505, 507, 509, 511, 513, 515, 517, 519]
theorem cl5_in : ∀ w ∈ u_ws RX7 TX7 10, w ∈ tblG := by
  have h : u_ws RX7 TX7 10 = lyp5.filterMap (fun i => lw_tbl[i]?) := by decide +kernel
  have hg : (u_ws RX7 TX7 10).all goodWord = true := by decide +kernel
  intro w hw
  refine List.mem_filter.mpr ⟨?_, List.all_eq_true.mp hg w hw⟩
  rw [h] at hw
  obtain ⟨i, -, hi⟩ := List.mem_filterMap.mp hw
  exact List.mem_of_getElem? hi
theorem cl5 : clK 5 RX7 TX7 10 := ⟨rfl, cl5_in, tyX7_ok, nmX7⟩
theorem df5 : ∀ k, k < 10 → defaultValue (fty 5 k) = dfv (fty 5 k) := by
  have h : (List.range 10).all (fun k => decide (defaultValue (fty 5 k) = dfv (fty 5 k))) = true := by decide +kernel
  intro k hk
  exact of_decide_eq_true (List.all_eq_true.mp h k (List.mem_range.mpr hk))
def lyp6 : List Nat := [1348, 1350, 1352, 1354, 1356, 1358, 1360, 1362, 1364, 1366, 1368, 1370, 1372, 1374, 1376, 1378, 1380, 1382, 1384, 1386, 1388, 1390, 1392, 1394, 1396, 1398, 1400, 1402, 1404, 1406, 1408, 1410, 1412, 1414, 1416, 1418, 1420, 1422, 1424, 1426, 1428, 1430, 1432, 1434, 1436, 1438, 1440, 1442, 1444, 1446, 1448, 1450, 1452, 1454, 1456, 1458, 1460, 1462]
theorem cl6_in : ∀ w ∈ u_ws RX8 TX8 58, w ∈ tblG := by
  have h : u_ws RX8 TX8 58 = lyp6.filterMap (fun i => lw_tbl[i]?) := by decide +kernel
  have hg : (u_ws RX8 TX8 58).all goodWord = true := by decide +kernel
  intro w hw
  refine List.mem_filter.mpr ⟨?_, List.all_eq_true.mp hg w hw⟩
  rw [h] at hw
  obtain ⟨i, -, hi⟩ := List.mem_filterMap.mp hw
  exact List.mem_of_getElem? hi
theorem cl6 : clK 6 RX8 TX8 58 := ⟨rfl, cl6_in, tyX8_ok, nmX8⟩
theorem df6 : ∀ k, k < 58 → defaultValue (fty 6 k) = dfv (fty 6 k) := by
  have h : (List.range 58).all (fun k => decide (defaultValue (fty 6 k) = dfv (fty 6 k))) = true := by decide +kernel
  intro k hk
  exact of_decide_eq_true (List.all_eq_true.mp h k (List.mem_range.mpr hk))
theorem oi1 : Cond.instanceMethod Lib.objectInit ∈ tblG := tG 203 (by decide +kernel) rfl
theorem oi2 : Cond.code Lib.objectInit ⟨#[0xb1]⟩ 1 none ∈ tblG := tG 204 (by decide +kernel) rfl
theorem mmmin1 : Cond.static Lib.Math.min.name ∈ tblG := tG 544 (by decide +kernel) rfl
theorem mmmin2 : Cond.code Lib.Math.min.name Lib.Math.min.code 2 (some .int) ∈ tblG := tG 545 (by decide +kernel) rfl
theorem mmabs1 : Cond.static Lib.Math.abs.name ∈ tblG := tG 1136 (by decide +kernel) rfl
theorem mmabs2 : Cond.code Lib.Math.abs.name Lib.Math.abs.code 1 (some .int) ∈ tblG := tG 1137 (by decide +kernel) rfl
theorem mmi : Cond.initialized "java/lang/Math" ∈ tblG := tG 186 (by decide +kernel) rfl
theorem aaI : Cond.arrayClass .int ∈ tblG := tG 301 (by decide +kernel) rfl
theorem aaZ : Cond.arrayClass .boolean ∈ tblG := tG 399 (by decide +kernel) rfl
theorem aaJ : Cond.arrayClass .long ∈ tblG := tG 302 (by decide +kernel) rfl
def FU : Nat := 4096
def wlet {α : Type} (x : Sg) (k : Sg → α) : α := k x
theorem wlet_s {α : Type} {x : Sg} {k : Sg → Option α} {r : α} (h : wlet x k = some r) : ∃ σ1, σ1 = x ∧ k σ1 = some r := ⟨x, rfl, h⟩
theorem xLe_0 {M : List (Option Value)} : xLe [] M := trivial
theorem xLe_n {L M : List (Option Value)} {w : Option Value} (h : xLe L M) : xLe (none :: L) (w :: M) := h
theorem xLe_s {L M : List (Option Value)} {v : Value} (h : xLe L M) : xLe (some v :: L) (some v :: M) := ⟨rfl, h⟩
def xEn : List Value → List (Option Value)
  | [] => []
  | v :: vs => if v.category = 2 then some v :: none :: xEn vs else some v :: xEn vs
def xEntN (vs : List Value) (n : Nat) : List (Option Value) := xEn vs ++ List.replicate (n - (xEn vs).length) none
theorem xEn_ok : ∀ (vs : List Value) (k i : Nat) (v : Value), (xEn vs)[i]? = some (some v) → (k + i, v) ∈ lv_args k vs
  | [], k, i, v, h => by simp [xEn] at h
  | w :: vs, k, i, v, h => by
    unfold xEn at h
    unfold lv_args
    split at h
    · rename_i hc
      rw [if_pos hc]
      match i, h with
      | 0, h =>
        simp at h
        subst h
        exact List.mem_cons_self
      | 1, h => simp at h
      | i + 2, h =>
        have := xEn_ok vs (k + 2) i v (by simpa using h)
        rw [show k + (i + 2) = k + 2 + i by omega]
        exact List.mem_cons_of_mem _ this
    · rename_i hc
      rw [if_neg hc]
      match i, h with
      | 0, h =>
        simp at h
        subst h
        exact List.mem_cons_self
      | i + 1, h =>
        have := xEn_ok vs (k + 1) i v (by simpa using h)
        rw [show k + (i + 1) = k + 1 + i by omega]
        exact List.mem_cons_of_mem _ this
theorem xEntN_ok (vs : List Value) (n : Nat) : ∀ (i : Nat) (v : Value), (xEntN vs n)[i]? = some (some v) → (i, v) ∈ lv_args 0 vs := by
  intro i v h
  unfold xEntN at h
  by_cases hl : i < (xEn vs).length
  · rw [List.getElem?_append_left hl] at h
    have := xEn_ok vs 0 i v h
    rwa [Nat.zero_add] at this
  · rw [List.getElem?_append_right (by omega)] at h
    have := List.mem_of_getElem? h
    simp at this
theorem br_em {c A : Prop} (a : c → A) (b : ¬ c → A) : A := (Classical.em c).elim a b
theorem sw_ne {x d : Int32} {k : Int} (h : ¬ x = d) (hk : d.toInt = k) : ¬ x.toInt = k := fun e => h (Int32.toInt_inj.mp (e.trans hk.symm))
theorem ckN_s {x : Int32} (h : ckN x = true) : ¬ x = 0 := by
  unfold ckN at h
  simpa using h
theorem ckM_s {x : Int64} (h : ckM x = true) : ¬ x = 0 := by
  unfold ckM at h
  simpa using h
theorem lcmp_eq {x y : Int64} : lg_cmp x y = 0 ↔ x = y := by
  unfold lg_cmp
  by_cases h1 : x > y
  · rw [if_pos h1]
    exact ⟨fun h => absurd h (by decide), fun h => absurd (h ▸ h1) (by rw [gt_iff_lt, Int64.lt_iff_toInt_lt]; omega)⟩
  · rw [if_neg h1]
    by_cases h2 : x = y
    · rw [if_pos h2]; exact ⟨fun _ => h2, fun _ => rfl⟩
    · rw [if_neg h2]; exact ⟨fun h => absurd h (by decide), fun h => absurd h h2⟩
theorem lcmp_lt {x y : Int64} : lg_cmp x y < 0 ↔ x < y := by
  unfold lg_cmp
  by_cases h1 : x > y
  · rw [if_pos h1]
    refine ⟨fun h => absurd h (by decide), fun h => ?_⟩
    rw [gt_iff_lt, Int64.lt_iff_toInt_lt] at h1
    rw [Int64.lt_iff_toInt_lt] at h
    omega
  · rw [if_neg h1]
    by_cases h2 : x = y
    · rw [if_pos h2]
      refine ⟨fun h => absurd h (by decide), fun h => ?_⟩
      rw [h2, Int64.lt_iff_toInt_lt] at h
      omega
    · rw [if_neg h2]
      refine ⟨fun _ => ?_, fun _ => by decide⟩
      rw [gt_iff_lt, Int64.lt_iff_toInt_lt] at h1
      rw [Int64.lt_iff_toInt_lt]
      have : x.toInt ≠ y.toInt := fun e => h2 (Int64.toInt_inj.mp e)
      omega
theorem lcmp_gt {x y : Int64} : 0 < lg_cmp x y ↔ y < x := by
  unfold lg_cmp
  by_cases h1 : x > y
  · rw [if_pos h1]; exact ⟨fun _ => h1, fun _ => by decide⟩
  · rw [if_neg h1]
    by_cases h2 : x = y
    · rw [if_pos h2]; exact ⟨fun h => absurd h (by decide), fun h => absurd h h1⟩
    · rw [if_neg h2]; exact ⟨fun h => absurd h (by decide), fun h => absurd h h1⟩
theorem i32_nlt {x y : Int32} : ¬ x < y ↔ y ≤ x := by
  rw [Int32.lt_iff_toInt_lt, Int32.le_iff_toInt_le]
  omega
theorem i64_nlt {x y : Int64} : ¬ x < y ↔ y ≤ x := by
  rw [Int64.lt_iff_toInt_lt, Int64.le_iff_toInt_le]
  omega
theorem lcmp_ge {x y : Int64} : 0 ≤ lg_cmp x y ↔ y ≤ x := by rw [← i32_nlt, ← i64_nlt, lcmp_lt]
theorem lcmp_le {x y : Int64} : lg_cmp x y ≤ 0 ↔ x ≤ y := by rw [← i32_nlt, ← i64_nlt, lcmp_gt]
def ckC (x : Int32) : Bool := decide (0 ≤ x) && decide (x ≤ 65535)
/-- a word of the text, as a virtual address -/
def ckT (r : Nat) : Bool := decide (1000 ≤ r) && decide (r < 1020)
theorem ckT_s {r : Nat} (h : ckT r = true) : ∃ i, i < 20 ∧ r = 1000 + i := by
  unfold ckT at h
  simp only [Bool.and_eq_true, decide_eq_true_eq] at h
  exact ⟨r - 1000, by omega, by omega⟩
theorem ad_X {E : Ev} {i : Nat} : ad E (1000 + i) = eX E i := by
  unfold ad
  rw [if_neg (by omega)]
  exact congrArg _ (by omega)
section XS
variable {E : Ev} {p : Program} {l : Launch} {e : Env} {R : Room} {s : State} {m : MethodId} {args : Array Value} {below : List Frame} {meth : Method} {c : Code} {Q : State → Prop} {own : String} {cc : ByteArray} {nL kc ks : Nat} {σ : Sg} {pc : Nat} {L : List (Option Value)} {st : List Value}
theorem x_eq {σ1 : Sg} (he : σ1 = σ) (kk : X E p l e R s m args below meth c Q nL kc ks σ1 pc L st) : X E p l e R s m args below meth c Q nL kc ks σ pc L st := he ▸ kk
theorem x_mkE {σ0 σ1 : Sg} {a : Nat} (he : some (gN σ0, mk1 σ0) = some (a, σ1)) (kk : X E p l e R s m args below meth c Q nL kc ks σ1 pc L (.ref (ad E a) :: st)) : X E p l e R s m args below meth c Q nL kc ks (mk1 σ0) pc L (.ref (ad E (gN σ0)) :: st) := by
  cases he
  exact kk
theorem x_lif_eq (C : Cx E p s m args meth c own cc nL) {x y : Int64} {o : Int} {tgt : Nat} (hd : decode cc pc = .ok (.ifCond .eq o, 3)) (ht : (pc : Int) + o = (tgt : Int)) (kt : x = y → X E p l e R s m args below meth c Q nL kc ks σ tgt L st) (kf : ¬ x = y → X E p l e R s m args below meth c Q nL kc ks σ (pc + 3) L st) : X E p l e R s m args below meth c Q nL kc ks σ pc L (.int (lg_cmp x y) :: st) := x_if_eq C hd ht (fun h => kt (lcmp_eq.mp h)) (fun h => kf (fun z => h (lcmp_eq.mpr z)))
theorem x_lif_ne (C : Cx E p s m args meth c own cc nL) {x y : Int64} {o : Int} {tgt : Nat} (hd : decode cc pc = .ok (.ifCond .ne o, 3)) (ht : (pc : Int) + o = (tgt : Int)) (kf : x = y → X E p l e R s m args below meth c Q nL kc ks σ (pc + 3) L st) (kt : ¬ x = y → X E p l e R s m args below meth c Q nL kc ks σ tgt L st) : X E p l e R s m args below meth c Q nL kc ks σ pc L (.int (lg_cmp x y) :: st) := x_if_ne C hd ht (fun h => kf (lcmp_eq.mp h)) (fun h => kt (fun z => h (lcmp_eq.mpr z)))
theorem x_lif_lt (C : Cx E p s m args meth c own cc nL) {x y : Int64} {o : Int} {tgt : Nat} (hd : decode cc pc = .ok (.ifCond .lt o, 3)) (ht : (pc : Int) + o = (tgt : Int)) (kt : x < y → X E p l e R s m args below meth c Q nL kc ks σ tgt L st) (kf : ¬ x < y → X E p l e R s m args below meth c Q nL kc ks σ (pc + 3) L st) : X E p l e R s m args below meth c Q nL kc ks σ pc L (.int (lg_cmp x y) :: st) := x_if_lt C hd ht (fun h => kt (lcmp_lt.mp h)) (fun h => kf (fun z => h (lcmp_lt.mpr z)))
theorem x_lif_ge (C : Cx E p s m args meth c own cc nL) {x y : Int64} {o : Int} {tgt : Nat} (hd : decode cc pc = .ok (.ifCond .ge o, 3)) (ht : (pc : Int) + o = (tgt : Int)) (kt : y ≤ x → X E p l e R s m args below meth c Q nL kc ks σ tgt L st) (kf : ¬ y ≤ x → X E p l e R s m args below meth c Q nL kc ks σ (pc + 3) L st) : X E p l e R s m args below meth c Q nL kc ks σ pc L (.int (lg_cmp x y) :: st) := x_if_ge C hd ht (fun h => kt (lcmp_ge.mp h)) (fun h => kf (fun z => h (lcmp_ge.mpr z)))
theorem x_lif_gt (C : Cx E p s m args meth c own cc nL) {x y : Int64} {o : Int} {tgt : Nat} (hd : decode cc pc = .ok (.ifCond .gt o, 3)) (ht : (pc : Int) + o = (tgt : Int)) (kt : y < x → X E p l e R s m args below meth c Q nL kc ks σ tgt L st) (kf : ¬ y < x → X E p l e R s m args below meth c Q nL kc ks σ (pc + 3) L st) : X E p l e R s m args below meth c Q nL kc ks σ pc L (.int (lg_cmp x y) :: st) := x_if_gt C hd ht (fun h => kt (lcmp_gt.mp h)) (fun h => kf (fun z => h (lcmp_gt.mpr z)))
theorem x_lif_le (C : Cx E p s m args meth c own cc nL) {x y : Int64} {o : Int} {tgt : Nat} (hd : decode cc pc = .ok (.ifCond .le o, 3)) (ht : (pc : Int) + o = (tgt : Int)) (kt : x ≤ y → X E p l e R s m args below meth c Q nL kc ks σ tgt L st) (kf : ¬ x ≤ y → X E p l e R s m args below meth c Q nL kc ks σ (pc + 3) L st) : X E p l e R s m args below meth c Q nL kc ks σ pc L (.int (lg_cmp x y) :: st) := x_if_le C hd ht (fun h => kt (lcmp_le.mp h)) (fun h => kf (fun z => h (lcmp_le.mpr z)))
/-! calls that answer, calls that don't -/
theorem x_callV1 (C : Cx E p s m args meth c own cc nL) {idx ci a N n h mc ms k : Nat} {y : MethodName} {b : ByteArray} {rt : Option FieldType} {T : u_T} {As rest : List Value} {r : Value} {σ' : Sg} {st0 : List Value} (hM : Mt E l y b n rt h mc ms (.ref (ad E a) :: As) σ (some r) σ') (hc : clK ci y.cls T N) (hk : ckO σ ci a = true) (cb : cB own idx y b n rt k) (hin : Cond.instanceMethod y ∈ tblG) (hse : Cond.selects y.cls y y ∈ tblG) (hst : st0 = As.reverse ++ .ref (ad E a) :: rest) (hk2 : As.length = k) (hW : (rest.map fun v => v.category).sum ≤ 8)
    (hR : h + 1 ≤ R.frames ∧ 8 + (n + 11) + 40 * h ≤ R.locals ∧ kc + mc ≤ R.cells ∧ ks + ms ≤ R.slots) (hd : decode cc pc = .ok (.invokevirtual idx, 3)) (kk : X E p l e R s m args below meth c Q nL (kc + mc) (ks + ms) σ' (pc + 3) L (r :: rest)) : X E p l e R s m args below meth c Q nL kc ks σ pc L st0 := x_callV C hM hc hk cb hin hse hst hk2 hW hR hd kk
theorem x_callV0 (C : Cx E p s m args meth c own cc nL) {idx ci a N n h mc ms k : Nat} {y : MethodName} {b : ByteArray} {rt : Option FieldType} {T : u_T} {As rest : List Value}  {σ' : Sg} {st0 : List Value} (hM : Mt E l y b n rt h mc ms (.ref (ad E a) :: As) σ none σ') (hc : clK ci y.cls T N) (hk : ckO σ ci a = true) (cb : cB own idx y b n rt k) (hin : Cond.instanceMethod y ∈ tblG) (hse : Cond.selects y.cls y y ∈ tblG) (hst : st0 = As.reverse ++ .ref (ad E a) :: rest) (hk2 : As.length = k) (hW : (rest.map fun v => v.category).sum ≤ 8)
    (hR : h + 1 ≤ R.frames ∧ 8 + (n + 11) + 40 * h ≤ R.locals ∧ kc + mc ≤ R.cells ∧ ks + ms ≤ R.slots) (hd : decode cc pc = .ok (.invokevirtual idx, 3)) (kk : X E p l e R s m args below meth c Q nL (kc + mc) (ks + ms) σ' (pc + 3) L (rest)) : X E p l e R s m args below meth c Q nL kc ks σ pc L st0 := x_callV C hM hc hk cb hin hse hst hk2 hW hR hd kk
theorem x_callS1 (C : Cx E p s m args meth c own cc nL) {idx n h mc ms k : Nat} {y : MethodName} {b : ByteArray} {rt : Option FieldType} {As rest : List Value} {r : Value} {σ' : Sg} {st0 : List Value} (hM : Mt E l y b n rt h mc ms As σ (some r) σ') (cb : cB own idx y b n rt k) (hin : Cond.static y ∈ tblG) (hst : st0 = As.reverse ++ rest) (hk2 : As.length = k) (hW : (rest.map fun v => v.category).sum ≤ 8)
    (hR : h + 1 ≤ R.frames ∧ 8 + (n + 11) + 40 * h ≤ R.locals ∧ kc + mc ≤ R.cells ∧ ks + ms ≤ R.slots) (hd : decode cc pc = .ok (.invokestatic idx, 3)) (kk : X E p l e R s m args below meth c Q nL (kc + mc) (ks + ms) σ' (pc + 3) L (r :: rest)) : X E p l e R s m args below meth c Q nL kc ks σ pc L st0 := x_callS C hM cb hin hst hk2 hW hR hd kk
theorem x_callS0 (C : Cx E p s m args meth c own cc nL) {idx n h mc ms k : Nat} {y : MethodName} {b : ByteArray} {rt : Option FieldType} {As rest : List Value}  {σ' : Sg} {st0 : List Value} (hM : Mt E l y b n rt h mc ms As σ none σ') (cb : cB own idx y b n rt k) (hin : Cond.static y ∈ tblG) (hst : st0 = As.reverse ++ rest) (hk2 : As.length = k) (hW : (rest.map fun v => v.category).sum ≤ 8)
    (hR : h + 1 ≤ R.frames ∧ 8 + (n + 11) + 40 * h ≤ R.locals ∧ kc + mc ≤ R.cells ∧ ks + ms ≤ R.slots) (hd : decode cc pc = .ok (.invokestatic idx, 3)) (kk : X E p l e R s m args below meth c Q nL (kc + mc) (ks + ms) σ' (pc + 3) L (rest)) : X E p l e R s m args below meth c Q nL kc ks σ pc L st0 := x_callS C hM cb hin hst hk2 hW hR hd kk
theorem x_callI0 (C : Cx E p s m args meth c own cc nL) {idx a n h mc ms k : Nat} {y : MethodName} {b : ByteArray} {As rest : List Value}  {σ' : Sg} {st0 : List Value} (hM : Mt E l y b n none h mc ms (.ref (ad E a) :: As) σ none σ') (cb : cB own idx y b n none k) (hname : y.name = "<init>") (hin : Cond.instanceMethod y ∈ tblG) (hst : st0 = As.reverse ++ .ref (ad E a) :: rest) (hk2 : As.length = k) (hW : (rest.map fun v => v.category).sum ≤ 8)
    (hR : h + 1 ≤ R.frames ∧ 8 + (n + 11) + 40 * h ≤ R.locals ∧ kc + mc ≤ R.cells ∧ ks + ms ≤ R.slots) (hd : decode cc pc = .ok (.invokespecial idx, 3)) (kk : X E p l e R s m args below meth c Q nL (kc + mc) (ks + ms) σ' (pc + 3) L (rest)) : X E p l e R s m args below meth c Q nL kc ks σ pc L st0 := x_callI C hM cb hname hin hst hk2 hW hR hd kk
/-! the words of the text -/
theorem x_getTok (C : Cx E p s m args meth c own cc nL) (i : Nat) (hi : i < 20) {idx : Nat} (hl : sL own idx "Prorates$Token" (tokN.getD i "") "LProrates$Token;") (hd : decode cc pc = .ok (.getstatic idx, 3)) (kk : X E p l e R s m args below meth c Q nL kc ks σ (pc + 3) L (.ref (ad E (1000 + i)) :: st)) : X E p l e R s m args below meth c Q nL kc ks σ pc L st := by
  refine x_gets C (C.2.2.2.2.2.1.2.1.1 i hi).1 hl hd ?_
  rw [← ad_X]
  exact kk
theorem x_getToks (C : Cx E p s m args meth c own cc nL) {idx : Nat} (hl : sL own idx "Prorates$Reader" "TOKENS" "[LProrates$Token;") (hd : decode cc pc = .ok (.getstatic idx, 3)) (kk : X E p l e R s m args below meth c Q nL kc ks σ (pc + 3) L (.ref (ad E 1020) :: st)) : X E p l e R s m args below meth c Q nL kc ks σ pc L st :=
  x_gets C C.2.2.2.2.2.1.2.2.2.1 hl hd (by rw [← ad_X]; exact kk)
theorem x_getSwm (C : Cx E p s m args meth c own cc nL) {idx : Nat} (hl : sL own idx "Prorates$1" "$SwitchMap$Prorates$Token" "[I") (hd : decode cc pc = .ok (.getstatic idx, 3)) (kk : X E p l e R s m args below meth c Q nL kc ks σ (pc + 3) L (.ref (ad E 1021) :: st)) : X E p l e R s m args below meth c Q nL kc ks σ pc L st :=
  x_gets C C.2.2.2.2.2.1.2.2.2.2.2.1 hl hd (by rw [← ad_X]; exact kk)
theorem x_alenTok (C : Cx E p s m args meth c own cc nL) (hd : decode cc pc = .ok (.arraylength, 1)) (kk : X E p l e R s m args below meth c Q nL kc ks σ (pc + 1) L (.int 20 :: st)) : X E p l e R s m args below meth c Q nL kc ks σ pc L (.ref (ad E 1020) :: st) := by
  rw [show ad E 1020 = eX E 20 from ad_X (i := 20)]
  exact x_alenX C C.2.2.2.2.2.1.2.2.2.2.1 hd kk
theorem x_aaldTok (C : Cx E p s m args meth c own cc nL) {i : Int32} (hi : inb i 20 = true) (hd : decode cc pc = .ok (.aaload, 1)) (kk : X E p l e R s m args below meth c Q nL kc ks σ (pc + 1) L (.ref (ad E (1000 + i.toNatClampNeg)) :: st)) : X E p l e R s m args below meth c Q nL kc ks σ pc L (.int i :: .ref (ad E 1020) :: st) := by
  rw [show ad E 1020 = eX E 20 from ad_X (i := 20)]
  refine x_aaldX C C.2.2.2.2.2.1.2.2.2.2.1 hi hd ?_
  rw [← ad_X]
  exact kk
theorem x_ialdSwm (C : Cx E p s m args meth c own cc nL) {i : Int32} (hi : inb i 20 = true) (hd : decode cc pc = .ok (.iaload, 1)) (kk : X E p l e R s m args below meth c Q nL kc ks σ (pc + 1) L (.int (swm.getD i.toNatClampNeg 0) :: st)) : X E p l e R s m args below meth c Q nL kc ks σ pc L (.int i :: .ref (ad E 1021) :: st) := by
  rw [show ad E 1021 = eX E 21 from ad_X (i := 21)]
  exact x_ialdX C C.2.2.2.2.2.1.2.2.2.2.2.2.1 hi hd kk
theorem x_tokCode (C : Cx E p s m args meth c own cc nL) {r idx : Nat} (hr : ckT r = true) (hl : sL own idx "Prorates$Token" "code" "J") (hd : decode cc pc = .ok (.getfield idx, 3)) (kk : X E p l e R s m args below meth c Q nL kc ks σ (pc + 3) L (.long (tokC.getD (r - 1000) 0) :: st)) : X E p l e R s m args below meth c Q nL kc ks σ pc L (.ref (ad E r) :: st) := by
  obtain ⟨i, hi, rfl⟩ := ckT_s hr
  rw [ad_X]
  refine x_getX C (C.2.2.2.2.2.1.2.2.1 i hi) hl hd ?_
  rw [show 1000 + i - 1000 = i by omega] at kk
  exact kk
theorem tok_inj (C : Cx E p s m args meth c own cc nL) {x y : Nat} (hx : ckT x = true) (hy : ckT y = true) (h : ad E x = ad E y) : x = y := by
  obtain ⟨i, hi, rfl⟩ := ckT_s hx
  obtain ⟨j, hj, rfl⟩ := ckT_s hy
  rw [ad_X, ad_X] at h
  rw [C.2.2.2.2.2.1.2.1.2 i j hi hj h]
theorem x_tcmp_eq (C : Cx E p s m args meth c own cc nL) {x y : Nat} {o : Int} {tgt : Nat} (hk : (ckT x && ckT y) = true) (hd : decode cc pc = .ok (.if_acmp .eq o, 3)) (ht : (pc : Int) + o = (tgt : Int)) (kt : x = y → X E p l e R s m args below meth c Q nL kc ks σ tgt L st) (kf : ¬ x = y → X E p l e R s m args below meth c Q nL kc ks σ (pc + 3) L st) : X E p l e R s m args below meth c Q nL kc ks σ pc L (.ref (ad E y) :: .ref (ad E x) :: st) := by
  rw [Bool.and_eq_true] at hk
  exact x_acmp_eq C hd ht (fun h => kt (tok_inj C hk.1 hk.2 h)) (fun h => kf (fun z => h (congrArg _ z)))
theorem x_tcmp_ne (C : Cx E p s m args meth c own cc nL) {x y : Nat} {o : Int} {tgt : Nat} (hk : (ckT x && ckT y) = true) (hd : decode cc pc = .ok (.if_acmp .ne o, 3)) (ht : (pc : Int) + o = (tgt : Int)) (kf : x = y → X E p l e R s m args below meth c Q nL kc ks σ (pc + 3) L st) (kt : ¬ x = y → X E p l e R s m args below meth c Q nL kc ks σ tgt L st) : X E p l e R s m args below meth c Q nL kc ks σ pc L (.ref (ad E y) :: .ref (ad E x) :: st) := by
  rw [Bool.and_eq_true] at hk
  exact x_acmp_ne C hd ht (fun h => kf (tok_inj C hk.1 hk.2 h)) (fun h => kt (fun z => h (congrArg _ z)))
/-! calls of members of the JDK -/
theorem x_callVO (C : Cx E p s m args meth c own cc nL) {idx a n h mc ms k : Nat} {y : MethodName} {b : ByteArray} {rt : Option FieldType} {As rest : List Value} {r : Value} {σ' : Sg} {st0 : List Value} (hM : Mt E l y b n rt h mc ms (.ref a :: As) σ (some r) σ') (hO : va_O y.cls a (eF E) s (eH E)) (cb : cB own idx y b n rt k) (hin : Cond.instanceMethod y ∈ tblG) (hse : Cond.selects y.cls y y ∈ tblG) (hst : st0 = As.reverse ++ .ref a :: rest) (hk2 : As.length = k) (hW : (rest.map fun v => v.category).sum ≤ 8)
    (hR : h + 1 ≤ R.frames ∧ 8 + (n + 11) + 40 * h ≤ R.locals ∧ kc + mc ≤ R.cells ∧ ks + ms ≤ R.slots) (hd : decode cc pc = .ok (.invokevirtual idx, 3)) (kk : X E p l e R s m args below meth c Q nL (kc + mc) (ks + ms) σ' (pc + 3) L (r :: rest)) : X E p l e R s m args below meth c Q nL kc ks σ pc L st0 := by
  obtain ⟨hl, hcode, hini, hy, hlen⟩ := cb
  refine x_back (a := (Value.ref a :: As).toArray) (r := some r) (fun H locs ls hH hL => ?_) kk
  obtain ⟨cell, o1, o2, o3, o4⟩ := hO
  have hp : PreV s H y.cls a (PdX E (.ref a :: As) σ) As := ⟨PdX.blind, ⟨cell, low_of hH o1, o2, o3⟩, fun U hU hw => ⟨rfl, by rw [hU]; exact hH, C.2.2.2.2.2.1.warm hw⟩⟩
  have hlen2 : ∀ sig, parseMethodDescriptor y.desc = some sig → k = sig.parameters.length := fun sig h => by
    rw [h] at hlen
    exact (Option.some.inj hlen).symm
  rcases hl with hl | ⟨host, hl⟩
  · exact va_runV ⟨C.1, C.2.1, C.2.2.1, C.2.2.2.1, C.2.2.2.2.1⟩ hM ⟨⟨rfl, rfl, hR.1, hR.2.1, tbl_ws C hcode, List.mem_cons_self, C.2.2.2.2.1 _ hcode, C.2.2.2.2.1 _ hini, hy, hlen2, C.2.2.2.2.1 _ hl⟩, C.2.2.2.2.1 _ hin, C.2.2.2.2.1 _ hse⟩ hp rfl hk2 hL.1 hst (lv_room hW) hd ⟨hR.2.2.1, hR.2.2.2⟩
  · exact va_runVN ⟨C.1, C.2.1, C.2.2.1, C.2.2.2.1, C.2.2.2.2.1⟩ hM ⟨⟨⟨rfl, rfl, hR.1, hR.2.1, tbl_ws C hcode, List.mem_cons_self⟩, C.2.2.2.2.1 _ hcode, C.2.2.2.2.1 _ hini, hy, hlen2, KN_of C hl rfl⟩, C.2.2.2.2.1 _ hin, C.2.2.2.2.1 _ hse⟩ hp rfl hk2 hL.1 hst (lv_room hW) hd ⟨hR.2.2.1, hR.2.2.2⟩
theorem mJord (E : Ev) (l : Launch) {i : Nat} (hi : i < 20) {σ : Sg} : Mt E l yJx29ce0_ordinal_8abf5 cJx29ce0_ordinal_8abf5 1 (some .int) 1 0 0 [.ref (eX E i)] σ (some (.int (nI i))) σ := by
  refine Mt.ofX (by decide) (Nat.le_of_ble_eq_true rfl) (L0 := [some (.ref (eX E i))]) (xEntN_ok [.ref (eX E i)] 1) (fun p e s m args below meth c C hr hn => ?_)
  refine x_aload_n (pc := 0) C dJx29ce0_ordinal_8abf5_0 rfl rfl ?_
  have h := ((C.2.2.2.2.2.1.2.1.1 i hi).2.2 _ List.mem_cons_self)
  refine x_getX (pc := 1) C h (Or.inl (tG 1952 (by decide +kernel) rfl)) dJx29ce0_ordinal_8abf5_1 ?_
  have e1 : ([0, 1, 2, 3, 4, 5, 6, 7, 8, 9, 10, 11, 12, 13, 14, 15, 16, 17, 18, 19] : List Int32).getD i 0 = nI i := by
    have h9 : ∀ i, i < 20 → ([0, 1, 2, 3, 4, 5, 6, 7, 8, 9, 10, 11, 12, 13, 14, 15, 16, 17, 18, 19] : List Int32).getD i 0 = nI i := by decide +kernel
    exact h9 i hi
  show Y E p l e _ s m args below meth c _ σ 0 0 1 0 0 σ _ _ [.int (([0, 1, 2, 3, 4, 5, 6, 7, 8, 9, 10, 11, 12, 13, 14, 15, 16, 17, 18, 19] : List Int32).getD i 0)]
  rw [e1]
  exact x_iret C hr dJx29ce0_ordinal_8abf5_4
theorem x_ordX3 (C : Cx E p s m args meth c RX3 cc nL) {r : Nat} (hr : ckT r = true) (hR : 1 + 1 ≤ R.frames ∧ 8 + (1 + 11) + 40 * 1 ≤ R.locals ∧ kc + 0 ≤ R.cells ∧ ks + 0 ≤ R.slots) (hW : (st.map fun v => v.category).sum ≤ 8) (hd : decode cc pc = .ok (.invokevirtual 105, 3)) (kk : X E p l e R s m args below meth c Q nL (kc + 0) (ks + 0) σ (pc + 3) L (.int (nI (r - 1000)) :: st)) : X E p l e R s m args below meth c Q nL kc ks σ pc L (.ref (ad E r) :: st) := by
  obtain ⟨i, hi, rfl⟩ := ckT_s hr
  rw [ad_X]
  rw [show 1000 + i - 1000 = i by omega] at kk
  have hM := mJord E l hi (σ := σ)
  refine x_back (a := (Value.ref (eX E i) :: []).toArray) (r := some (.int (nI i))) (fun H locs ls hH hL => ?_) kk
  obtain ⟨cell, o1, o2, o3, o4⟩ := (C.2.2.2.2.2.1.2.1.1 i hi).2.1
  have hp : PreV s H "Prorates$Token" (eX E i) (PdX E [.ref (eX E i)] σ) [] := ⟨PdX.blind, ⟨cell, low_of hH o1, o2, o3⟩, fun U hU hw => ⟨rfl, by rw [hU]; exact hH, C.2.2.2.2.2.1.warm hw⟩⟩
  have hcode : Cond.code yJx29ce0_ordinal_8abf5 cJx29ce0_ordinal_8abf5 1 (some .int) ∈ tblG := tG 585 (by decide +kernel) rfl
  have hin : Cond.instanceMethod yJx29ce0_ordinal_8abf5 ∈ tblG := tG 584 (by decide +kernel) rfl
  refine va_runU (x := ⟨"Prorates$Token", "ordinal", "()I"⟩) (C := "Prorates$Token") (owner := "java/lang/Enum") (n := 0) ⟨C.1, C.2.1, C.2.2.1, C.2.2.2.1, C.2.2.2.2.1⟩ hM ⟨⟨rfl, rfl, hR.1, hR.2.1, tbl_ws C hcode, List.mem_cons_self⟩, C.2.2.2.2.1 _ hcode, C.2.2.2.2.1 _ (tG 180 (by decide +kernel) rfl), ⟨by decide, by decide⟩, fun sig hs => ?_, C.2.2.2.2.1 _ (tG 580 (by decide +kernel) rfl), C.2.2.2.2.1 _ (tG 581 (by decide +kernel) rfl), va_Decl.of (C.2.2.2.2.1 _ hin) (C.2.2.2.2.1 _ hcode), C.2.2.2.2.1 _ (tG 583 (by decide +kernel) rfl), C.2.2.2.2.1 _ hin⟩ hp rfl rfl hL.1 rfl (lv_room hW) hd ⟨hR.2.2.1, hR.2.2.2⟩
  have h9 : (parseMethodDescriptor "()I").map (fun d => d.parameters.length) = some 0 := by decide +kernel
  have hs : parseMethodDescriptor "()I" = some sig := hs
  rw [hs] at h9
  exact (Option.some.inj h9).symm
/-! the list of words -/
theorem x_ldcWords (C : Cx E p s m args meth c RX8 cc nL) (hd : decode cc pc = .ok (.ldc 151, 2)) (kk : X E p l e R s m args below meth c Q nL kc ks σ (pc + 2) L (.ref (ad E 1022) :: st)) : X E p l e R s m args below meth c Q nL kc ks σ pc L st := by
  refine x_ldcS C C.2.2.2.2.2.1.2.2.2.2.2.2.2.2.2.2.2.2.2.1 hd ?_
  rw [← ad_X]
  exact kk
theorem mJisL (E : Ev) (l : Launch) {σ : Sg} : Mt E l yJ0_isLatin1_aae02 cJ0_isLatin1_aae02 1 (some .boolean) 1 0 0 [.ref (eX E 22)] σ (some (.int 1)) σ := by
  refine Mt.ofX (by decide) (Nat.le_of_ble_eq_true rfl) (L0 := [some (.ref (eX E 22))]) (xEntN_ok [.ref (eX E 22)] 1) (fun p e s m args below meth c C hr hn => ?_)
  refine x_gets (pc := 0) C C.2.2.2.2.2.1.2.2.2.2.2.2.2.2.2.2.2.1 (Or.inl (tG 1509 (by decide +kernel) rfl)) dJ0_isLatin1_aae02_0 ?_
  refine x_if_eq (pc := 3) (tgt := 17) C dJ0_isLatin1_aae02_3 (by decide) (fun q => absurd q (by decide)) (fun _ => ?_)
  refine x_aload_n (pc := 6) C dJ0_isLatin1_aae02_6 rfl rfl ?_
  refine x_getX (pc := 7) C C.2.2.2.2.2.1.2.2.2.2.2.2.2.2.2.1 (Or.inl (tG 1954 (by decide +kernel) rfl)) dJ0_isLatin1_aae02_7 ?_
  refine x_if_ne (pc := 10) (tgt := 17) C dJ0_isLatin1_aae02_10 (by decide) (fun _ => ?_) (fun q => absurd rfl q)
  refine x_iconst (pc := 13) (v := 1) C dJ0_isLatin1_aae02_13 (by decide) ?_
  refine x_goto (pc := 14) (tgt := 18) C dJ0_isLatin1_aae02_14 (by decide) ?_
  exact x_zret C hr rfl dJ0_isLatin1_aae02_18
theorem mJcod (E : Ev) (l : Launch) {σ : Sg} : Mt E l yJ0_coder_7d493 cJ0_coder_7d493 1 (some .byte) 1 0 0 [.ref (eX E 22)] σ (some (.int 0)) σ := by
  refine Mt.ofX (by decide) (Nat.le_of_ble_eq_true rfl) (L0 := [some (.ref (eX E 22))]) (xEntN_ok [.ref (eX E 22)] 1) (fun p e s m args below meth c C hr hn => ?_)
  refine x_gets (pc := 0) C C.2.2.2.2.2.1.2.2.2.2.2.2.2.2.2.2.2.1 (Or.inl (tG 1509 (by decide +kernel) rfl)) dJ0_coder_7d493_0 ?_
  refine x_if_eq (pc := 3) (tgt := 13) C dJ0_coder_7d493_3 (by decide) (fun q => absurd q (by decide)) (fun _ => ?_)
  refine x_aload_n (pc := 6) C dJ0_coder_7d493_6 rfl rfl ?_
  refine x_getX (pc := 7) C C.2.2.2.2.2.1.2.2.2.2.2.2.2.2.2.1 (Or.inl (tG 1954 (by decide +kernel) rfl)) dJ0_coder_7d493_7 ?_
  refine x_goto (pc := 10) (tgt := 14) C dJ0_coder_7d493_10 (by decide) ?_
  exact x_zret C hr rfl dJ0_coder_7d493_14
theorem cJcod : cB RJ0 335 yJ0_coder_7d493 cJ0_coder_7d493 1 (some .byte) 0 := ⟨Or.inl (tG 1505 (by decide +kernel) rfl), tG 1508 (by decide +kernel) rfl, tG 188 (by decide +kernel) rfl, by decide +kernel, by decide +kernel⟩
theorem cJisL : cB RJ0 492 yJ0_isLatin1_aae02 cJ0_isLatin1_aae02 1 (some .boolean) 0 := ⟨Or.inl (tG 1515 (by decide +kernel) rfl), tG 1518 (by decide +kernel) rfl, tG 188 (by decide +kernel) rfl, by decide +kernel, by decide +kernel⟩
theorem mJlen (E : Ev) (l : Launch) {σ : Sg} : Mt E l yJ0_length_8abf5 cJ0_length_8abf5 1 (some .int) 2 0 0 [.ref (eX E 22)] σ (some (.int 85)) σ := by
  refine Mt.ofX (by decide) (Nat.le_of_ble_eq_true rfl) (L0 := [some (.ref (eX E 22))]) (xEntN_ok [.ref (eX E 22)] 1) (fun p e s m args below meth c C hr hn => ?_)
  refine x_aload_n (pc := 0) C dJ0_length_8abf5_0 rfl rfl ?_
  refine x_getX (pc := 1) C C.2.2.2.2.2.1.2.2.2.2.2.2.2.2.1 (Or.inl (tG 1953 (by decide +kernel) rfl)) dJ0_length_8abf5_1 ?_
  refine x_alenX (pc := 4) C C.2.2.2.2.2.1.2.2.2.2.2.2.2.2.2.2.1 dJ0_length_8abf5_4 ?_
  refine x_aload_n (pc := 5) C dJ0_length_8abf5_5 rfl rfl ?_
  refine x_callVO (pc := 6) C (mJcod E l) C.2.2.2.2.2.1.2.2.2.2.2.2.2.1 cJcod (tG 1506 (by decide +kernel) rfl) (tG 1507 (by decide +kernel) rfl) rfl rfl (Nat.le_of_ble_eq_true rfl) ⟨Nat.le_of_ble_eq_true rfl, Nat.le_of_ble_eq_true rfl, Nat.le_of_ble_eq_true rfl, Nat.le_of_ble_eq_true rfl⟩ dJ0_length_8abf5_6 ?_
  refine x_ishr (pc := 9) C dJ0_length_8abf5_9 ?_
  have e1 : nI 85 >>> ((0 : Int32) &&& 31) = 85 := by decide
  rw [e1]
  exact x_iret C hr dJ0_length_8abf5_10
theorem mJpre (E : Ev) (l : Launch) {σ : Sg} {i n : Int32} {q : Value} (h : inb i n.toNatClampNeg = true) (hq : q = .null ∨ ∃ a, q = .ref a) : Mt E l yJ3_checkIndex_8e157 cJ3_checkIndex_8e157 3 (some .int) 1 0 0 [.int i, .int n, q] σ (some (.int i)) σ := by
  have h1 : ¬ i < 0 := fun z => (inb_s h).1 (Or.inl z)
  have h2 : i < n := by
    have := (inb_s h).2
    rw [Int32.lt_iff_toInt_lt]
    have h3 : ¬ i.toInt < 0 := fun z => h1 (by rw [Int32.lt_iff_toInt_lt]; exact z)
    unfold Int32.toNatClampNeg at this
    omega
  have hcq : q.category = 1 := by rcases hq with rfl | ⟨a, rfl⟩ <;> rfl
  refine Mt.ofX (by decide) (by rcases hq with rfl | ⟨a, rfl⟩ <;> exact Nat.le_of_ble_eq_true rfl) (L0 := [some (.int i), some (.int n), some q]) (by
    have := xEntN_ok [.int i, .int n, q] 3
    rcases hq with rfl | ⟨a, rfl⟩ <;> exact this) (fun p e s m args below meth c C hr hn => ?_)
  refine x_iload_n (pc := 0) C dJ3_checkIndex_8e157_0 rfl rfl ?_
  refine x_if_lt (pc := 1) (tgt := 9) C dJ3_checkIndex_8e157_1 (by decide) (fun z => absurd z h1) (fun _ => ?_)
  refine x_iload_n (pc := 4) C dJ3_checkIndex_8e157_4 rfl rfl ?_
  refine x_iload_n (pc := 5) C dJ3_checkIndex_8e157_5 rfl rfl ?_
  refine x_icmp_lt (pc := 6) (tgt := 16) C dJ3_checkIndex_8e157_6 (by decide) (fun _ => ?_) (fun z => absurd h2 z)
  refine x_iload_n (pc := 16) C dJ3_checkIndex_8e157_16 rfl rfl ?_
  exact x_iret C hr dJ3_checkIndex_8e157_17
theorem cJpre : cB RJ0 1059 yJ3_checkIndex_8e157 cJ3_checkIndex_8e157 3 (some .int) 3 := ⟨Or.inl (tG 1527 (by decide +kernel) rfl), tG 1529 (by decide +kernel) rfl, tG 190 (by decide +kernel) rfl, by decide +kernel, by decide +kernel⟩
theorem mJci (E : Ev) (l : Launch) {σ : Sg} {i n : Int32} (h : inb i n.toNatClampNeg = true) : Mt E l yJ0_checkIndex_df160 cJ0_checkIndex_df160 2 none 2 0 0 [.int i, .int n] σ none σ := by
  refine Mt.ofX (by decide) (Nat.le_of_ble_eq_true rfl) (L0 := [some (.int i), some (.int n)]) (xEntN_ok [.int i, .int n] 2) (fun p e s m args below meth c C hr hn => ?_)
  refine x_iload_n (pc := 0) C dJ0_checkIndex_df160_0 rfl rfl ?_
  refine x_iload_n (pc := 1) C dJ0_checkIndex_df160_1 rfl rfl ?_
  have hz := C.2.2.2.2.2.1.2.2.2.2.2.2.2.2.2.2.2.2.1
  obtain ⟨q, hq, hZ⟩ : ∃ q : Value, (q = .null ∨ ∃ a, q = .ref a) ∧ va_Z "jdk/internal/util/Preconditions" "SIOOBE_FORMATTER" "Ljava/util/function/BiFunction;" q (eF E) s (eH E) := by
    rcases hz with hz | ⟨t, hz⟩
    · exact ⟨_, Or.inl rfl, hz⟩
    · exact ⟨_, Or.inr ⟨t, rfl⟩, hz⟩
  refine x_gets (pc := 2) C hZ (Or.inl (tG 1525 (by decide +kernel) rfl)) dJ0_checkIndex_df160_2 ?_
  refine x_callS1 (pc := 5) C (mJpre E l h hq) cJpre (tG 1528 (by decide +kernel) rfl) rfl rfl (Nat.le_of_ble_eq_true rfl) ⟨Nat.le_of_ble_eq_true rfl, Nat.le_of_ble_eq_true rfl, Nat.le_of_ble_eq_true rfl, Nat.le_of_ble_eq_true rfl⟩ dJ0_checkIndex_df160_5 ?_
  refine x_pop (pc := 8) C dJ0_checkIndex_df160_8 rfl ?_
  exact x_vret C hr dJ0_checkIndex_df160_9
theorem cJci : cB RJ1 9 yJ0_checkIndex_df160 cJ0_checkIndex_df160 2 none 2 := ⟨Or.inl (tG 1522 (by decide +kernel) rfl), tG 1524 (by decide +kernel) rfl, tG 188 (by decide +kernel) rfl, by decide +kernel, by decide +kernel⟩
theorem wrd_ok : ∀ j, j < 85 → (((wrd.getD j 0) &&& 255).toUInt32 % 65536).toInt32 = wrd.getD j 0 ∧ narrow .char (.int (wrd.getD j 0)) = .int (wrd.getD j 0) := by
  have h : (List.range 85).all (fun j => decide ((((wrd.getD j 0) &&& 255).toUInt32 % 65536).toInt32 = wrd.getD j 0) && decide (narrow .char (.int (wrd.getD j 0)) = .int (wrd.getD j 0))) = true := by decide +kernel
  intro j hj
  have := List.all_eq_true.mp h j (List.mem_range.mpr hj)
  simp only [Bool.and_eq_true, decide_eq_true_eq] at this
  exact this
theorem mJlat (E : Ev) (l : Launch) {σ : Sg} {i : Int32} (h : inb i 85 = true) : Mt E l yJ1_charAt_3b067 cJ1_charAt_3b067 2 (some .char) 3 0 0 [.ref (eX E 23), .int i] σ (some (.int (wrd.getD i.toNatClampNeg 0))) σ := by
  refine Mt.ofX (by decide) (Nat.le_of_ble_eq_true rfl) (L0 := [some (.ref (eX E 23)), some (.int i)]) (xEntN_ok [.ref (eX E 23), .int i] 2) (fun p e s m args below meth c C hr hn => ?_)
  refine x_iload_n (pc := 0) C dJ1_charAt_3b067_0 rfl rfl ?_
  refine x_aload_n (pc := 1) C dJ1_charAt_3b067_1 rfl rfl ?_
  refine x_alenX (pc := 2) C C.2.2.2.2.2.1.2.2.2.2.2.2.2.2.2.2.1 dJ1_charAt_3b067_2 ?_
  refine x_callS0 (pc := 3) C (mJci E l (n := nI 85) (by rw [nI_clamp (by decide)]; exact h)) cJci (tG 1523 (by decide +kernel) rfl) rfl rfl (Nat.le_of_ble_eq_true rfl) ⟨Nat.le_of_ble_eq_true rfl, Nat.le_of_ble_eq_true rfl, Nat.le_of_ble_eq_true rfl, Nat.le_of_ble_eq_true rfl⟩ dJ1_charAt_3b067_3 ?_
  refine x_aload_n (pc := 6) C dJ1_charAt_3b067_6 rfl rfl ?_
  refine x_iload_n (pc := 7) C dJ1_charAt_3b067_7 rfl rfl ?_
  refine x_baldX (pc := 8) C C.2.2.2.2.2.1.2.2.2.2.2.2.2.2.2.2.1 h dJ1_charAt_3b067_8 ?_
  refine x_sipush (pc := 9) (v := 255) C dJ1_charAt_3b067_9 (by decide) ?_
  refine x_iand (pc := 12) C dJ1_charAt_3b067_12 ?_
  refine x_i2c (pc := 13) C dJ1_charAt_3b067_13 ?_
  have hw := wrd_ok i.toNatClampNeg (inb_s h).2
  rw [hw.1]
  exact x_zret C hr hw.2 dJ1_charAt_3b067_14
theorem cJlat : cB RJ0 495 yJ1_charAt_3b067 cJ1_charAt_3b067 2 (some .char) 2 := ⟨Or.inl (tG 1519 (by decide +kernel) rfl), tG 1521 (by decide +kernel) rfl, tG 189 (by decide +kernel) rfl, by decide +kernel, by decide +kernel⟩
theorem mJchr (E : Ev) (l : Launch) {σ : Sg} {i : Int32} (h : inb i 85 = true) : Mt E l yJ0_charAt_5068e cJ0_charAt_5068e 2 (some .char) 4 0 0 [.ref (eX E 22), .int i] σ (some (.int (wrd.getD i.toNatClampNeg 0))) σ := by
  refine Mt.ofX (by decide) (Nat.le_of_ble_eq_true rfl) (L0 := [some (.ref (eX E 22)), some (.int i)]) (xEntN_ok [.ref (eX E 22), .int i] 2) (fun p e s m args below meth c C hr hn => ?_)
  refine x_aload_n (pc := 0) C dJ0_charAt_5068e_0 rfl rfl ?_
  refine x_callVO (pc := 1) C (mJisL E l) C.2.2.2.2.2.1.2.2.2.2.2.2.2.1 cJisL (tG 1516 (by decide +kernel) rfl) (tG 1517 (by decide +kernel) rfl) rfl rfl (Nat.le_of_ble_eq_true rfl) ⟨Nat.le_of_ble_eq_true rfl, Nat.le_of_ble_eq_true rfl, Nat.le_of_ble_eq_true rfl, Nat.le_of_ble_eq_true rfl⟩ dJ0_charAt_5068e_1 ?_
  refine x_if_eq (pc := 4) (tgt := 16) C dJ0_charAt_5068e_4 (by decide) (fun z => absurd z (by decide)) (fun _ => ?_)
  refine x_aload_n (pc := 7) C dJ0_charAt_5068e_7 rfl rfl ?_
  refine x_getX (pc := 8) C C.2.2.2.2.2.1.2.2.2.2.2.2.2.2.1 (Or.inl (tG 1953 (by decide +kernel) rfl)) dJ0_charAt_5068e_8 ?_
  refine x_iload_n (pc := 11) C dJ0_charAt_5068e_11 rfl rfl ?_
  refine x_callS1 (pc := 12) C (mJlat E l h) cJlat (tG 1520 (by decide +kernel) rfl) rfl rfl (Nat.le_of_ble_eq_true rfl) ⟨Nat.le_of_ble_eq_true rfl, Nat.le_of_ble_eq_true rfl, Nat.le_of_ble_eq_true rfl, Nat.le_of_ble_eq_true rfl⟩ dJ0_charAt_5068e_12 ?_
  exact x_zret C hr (wrd_ok i.toNatClampNeg (inb_s h).2).2 dJ0_charAt_5068e_15
theorem cJlen : cB RX8 153 yJ0_length_8abf5 cJ0_length_8abf5 1 (some .int) 0 := ⟨Or.inl (tG 1501 (by decide +kernel) rfl), tG 1504 (by decide +kernel) rfl, tG 188 (by decide +kernel) rfl, by decide +kernel, by decide +kernel⟩
theorem cJchr : cB RX8 158 yJ0_charAt_5068e cJ0_charAt_5068e 2 (some .char) 1 := ⟨Or.inl (tG 1511 (by decide +kernel) rfl), tG 1514 (by decide +kernel) rfl, tG 188 (by decide +kernel) rfl, by decide +kernel, by decide +kernel⟩
theorem x_slenW (C : Cx E p s m args meth c RX8 cc nL) (hR : 2 + 1 ≤ R.frames ∧ 8 + (1 + 11) + 40 * 2 ≤ R.locals ∧ kc + 0 ≤ R.cells ∧ ks + 0 ≤ R.slots) (hW : (st.map fun v => v.category).sum ≤ 8) (hd : decode cc pc = .ok (.invokevirtual 153, 3)) (kk : X E p l e R s m args below meth c Q nL (kc + 0) (ks + 0) σ (pc + 3) L (.int 85 :: st)) : X E p l e R s m args below meth c Q nL kc ks σ pc L (.ref (ad E 1022) :: st) := by
  rw [show ad E 1022 = eX E 22 from ad_X (i := 22)]
  exact x_callVO C (mJlen E l) C.2.2.2.2.2.1.2.2.2.2.2.2.2.1 cJlen (tG 1502 (by decide +kernel) rfl) (tG 1503 (by decide +kernel) rfl) rfl rfl hW hR hd kk
theorem x_scharW (C : Cx E p s m args meth c RX8 cc nL) {i : Int32} (hi : inb i 85 = true) (hR : 4 + 1 ≤ R.frames ∧ 8 + (2 + 11) + 40 * 4 ≤ R.locals ∧ kc + 0 ≤ R.cells ∧ ks + 0 ≤ R.slots) (hW : (st.map fun v => v.category).sum ≤ 8) (hd : decode cc pc = .ok (.invokevirtual 158, 3)) (kk : X E p l e R s m args below meth c Q nL (kc + 0) (ks + 0) σ (pc + 3) L (.int (wrd.getD i.toNatClampNeg 0) :: st)) : X E p l e R s m args below meth c Q nL kc ks σ pc L (.int i :: .ref (ad E 1022) :: st) := by
  rw [show ad E 1022 = eX E 22 from ad_X (i := 22)]
  exact x_callVO C (mJchr E l hi) C.2.2.2.2.2.1.2.2.2.2.2.2.2.1 cJchr (tG 1512 (by decide +kernel) rfl) (tG 1513 (by decide +kernel) rfl) rfl rfl hW hR hd kk
end XS

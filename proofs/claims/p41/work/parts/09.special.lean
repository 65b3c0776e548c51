/-! the sorts of objects, the tables' words that are asked everywhere, the words of the text, the list of words, words of the JDK -/
def lyp0 : List Nat := [401, 403, 405, 407, 409, 411, 413, 415, 417, 419, 421, 423, 425, 427, 429, 431, 433, 435, 437, 439]
theorem cl0_in : ∀ w ∈ u_ws RX1 TX1 20, w ∈ tblG := by
  have h : u_ws RX1 TX1 20 = lyp0.filterMap (fun i => lw_tbl[i]?) := by decide +kernel
  have hg : (u_ws RX1 TX1 20).all goodWord = true := by decide +kernel
  intro w hw
  refine List.mem_filter.mpr ⟨?_, List.all_eq_true.mp hg w hw⟩
  rw [h] at hw
  obtain ⟨i, -, hi⟩ := List.mem_filterMap.mp hw
  exact List.mem_append_left _ (List.mem_of_getElem? hi)
theorem cl0 : clK 0 RX1 TX1 20 := ⟨rfl, cl0_in, tyX1_ok, nmX1⟩
theorem df0 : ∀ k, k < 20 → defaultValue (fty 0 k) = dfv (fty 0 k) := by
  have h : (List.range 20).all (fun k => decide (defaultValue (fty 0 k) = dfv (fty 0 k))) = true := by decide +kernel
  intro k hk
  exact of_decide_eq_true (List.all_eq_true.mp h k (List.mem_range.mpr hk))
def lyp1 : List Nat := [511, 513, 515, 517, 519, 521, 523, 525, 527, 529, 531]
theorem cl1_in : ∀ w ∈ u_ws RX2 TX2 11, w ∈ tblG := by
  have h : u_ws RX2 TX2 11 = lyp1.filterMap (fun i => lw_tbl[i]?) := by decide +kernel
  have hg : (u_ws RX2 TX2 11).all goodWord = true := by decide +kernel
  intro w hw
  refine List.mem_filter.mpr ⟨?_, List.all_eq_true.mp hg w hw⟩
  rw [h] at hw
  obtain ⟨i, -, hi⟩ := List.mem_filterMap.mp hw
  exact List.mem_append_left _ (List.mem_of_getElem? hi)
theorem cl1 : clK 1 RX2 TX2 11 := ⟨rfl, cl1_in, tyX2_ok, nmX2⟩
theorem df1 : ∀ k, k < 11 → defaultValue (fty 1 k) = dfv (fty 1 k) := by
  have h : (List.range 11).all (fun k => decide (defaultValue (fty 1 k) = dfv (fty 1 k))) = true := by decide +kernel
  intro k hk
  exact of_decide_eq_true (List.all_eq_true.mp h k (List.mem_range.mpr hk))
def lyp2 : List Nat := [463, 465, 467, 469, 471, 473, 475, 477, 479, 481, 483]
theorem cl2_in : ∀ w ∈ u_ws RX3 TX3 11, w ∈ tblG := by
  have h : u_ws RX3 TX3 11 = lyp2.filterMap (fun i => lw_tbl[i]?) := by decide +kernel
  have hg : (u_ws RX3 TX3 11).all goodWord = true := by decide +kernel
  intro w hw
  refine List.mem_filter.mpr ⟨?_, List.all_eq_true.mp hg w hw⟩
  rw [h] at hw
  obtain ⟨i, -, hi⟩ := List.mem_filterMap.mp hw
  exact List.mem_append_left _ (List.mem_of_getElem? hi)
theorem cl2 : clK 2 RX3 TX3 11 := ⟨rfl, cl2_in, tyX3_ok, nmX3⟩
theorem df2 : ∀ k, k < 11 → defaultValue (fty 2 k) = dfv (fty 2 k) := by
  have h : (List.range 11).all (fun k => decide (defaultValue (fty 2 k) = dfv (fty 2 k))) = true := by decide +kernel
  intro k hk
  exact of_decide_eq_true (List.all_eq_true.mp h k (List.mem_range.mpr hk))
def lyp3 : List Nat := [614, 616, 618]
theorem cl3_in : ∀ w ∈ u_ws RX4 TX4 3, w ∈ tblG := by
  have h : u_ws RX4 TX4 3 = lyp3.filterMap (fun i => lw_tbl[i]?) := by decide +kernel
  have hg : (u_ws RX4 TX4 3).all goodWord = true := by decide +kernel
  intro w hw
  refine List.mem_filter.mpr ⟨?_, List.all_eq_true.mp hg w hw⟩
  rw [h] at hw
  obtain ⟨i, -, hi⟩ := List.mem_filterMap.mp hw
  exact List.mem_append_left _ (List.mem_of_getElem? hi)
theorem cl3 : clK 3 RX4 TX4 3 := ⟨rfl, cl3_in, tyX4_ok, nmX4⟩
theorem df3 : ∀ k, k < 3 → defaultValue (fty 3 k) = dfv (fty 3 k) := by
  have h : (List.range 3).all (fun k => decide (defaultValue (fty 3 k) = dfv (fty 3 k))) = true := by decide +kernel
  intro k hk
  exact of_decide_eq_true (List.all_eq_true.mp h k (List.mem_range.mpr hk))
def lyp4 : List Nat := [567, 569, 571, 573, 575, 577, 579, 581, 583, 585, 587, 589, 591, 593, 595, 597, 599, 601]
theorem cl4_in : ∀ w ∈ u_ws RX5 TX5 18, w ∈ tblG := by
  have h : u_ws RX5 TX5 18 = lyp4.filterMap (fun i => lw_tbl[i]?) := by decide +kernel
  have hg : (u_ws RX5 TX5 18).all goodWord = true := by decide +kernel
  intro w hw
  refine List.mem_filter.mpr ⟨?_, List.all_eq_true.mp hg w hw⟩
  rw [h] at hw
  obtain ⟨i, -, hi⟩ := List.mem_filterMap.mp hw
  exact List.mem_append_left _ (List.mem_of_getElem? hi)
theorem cl4 : clK 4 RX5 TX5 18 := ⟨rfl, cl4_in, tyX5_ok, nmX5⟩
theorem df4 : ∀ k, k < 18 → defaultValue (fty 4 k) = dfv (fty 4 k) := by
  have h : (List.range 18).all (fun k => decide (defaultValue (fty 4 k) = dfv (fty 4 k))) = true := by decide +kernel
  intro k hk
  exact of_decide_eq_true (List.all_eq_true.mp h k (List.mem_range.mpr hk))
def lyp5 : List Nat := [631, 633, 635, 637, 639, 641, 643, 645, 647, 649]
theorem cl5_in : ∀ w ∈ u_ws RX7 TX7 10, w ∈ tblG := by
  have h : u_ws RX7 TX7 10 = lyp5.filterMap (fun i => lw_tbl[i]?) := by decide +kernel
  have hg : (u_ws RX7 TX7 10).all goodWord = true := by decide +kernel
  intro w hw
  refine List.mem_filter.mpr ⟨?_, List.all_eq_true.mp hg w hw⟩
  rw [h] at hw
  obtain ⟨i, -, hi⟩ := List.mem_filterMap.mp hw
  exact List.mem_append_left _ (List.mem_of_getElem? hi)
theorem cl5 : clK 5 RX7 TX7 10 := ⟨rfl, cl5_in, tyX7_ok, nmX7⟩
theorem df5 : ∀ k, k < 10 → defaultValue (fty 5 k) = dfv (fty 5 k) := by
  have h : (List.range 10).all (fun k => decide (defaultValue (fty 5 k) = dfv (fty 5 k))) = true := by decide +kernel
  intro k hk
  exact of_decide_eq_true (List.all_eq_true.mp h k (List.mem_range.mpr hk))
def lyp6 : List Nat := [1254, 1256, 1258, 1260, 1262, 1264, 1266]
theorem cl6_in : ∀ w ∈ u_ws RX8 TX8 7, w ∈ tblG := by
  have h : u_ws RX8 TX8 7 = lyp6.filterMap (fun i => lw_tbl[i]?) := by decide +kernel
  have hg : (u_ws RX8 TX8 7).all goodWord = true := by decide +kernel
  intro w hw
  refine List.mem_filter.mpr ⟨?_, List.all_eq_true.mp hg w hw⟩
  rw [h] at hw
  obtain ⟨i, -, hi⟩ := List.mem_filterMap.mp hw
  exact List.mem_append_left _ (List.mem_of_getElem? hi)
theorem cl6 : clK 6 RX8 TX8 7 := ⟨rfl, cl6_in, tyX8_ok, nmX8⟩
theorem df6 : ∀ k, k < 7 → defaultValue (fty 6 k) = dfv (fty 6 k) := by
  have h : (List.range 7).all (fun k => decide (defaultValue (fty 6 k) = dfv (fty 6 k))) = true := by decide +kernel
  intro k hk
  exact of_decide_eq_true (List.all_eq_true.mp h k (List.mem_range.mpr hk))
def lyp7 : List Nat := [888, 890, 892, 894]
theorem cl7_in : ∀ w ∈ u_ws RJ0 TJ0 4, w ∈ tblG := by
  have h : u_ws RJ0 TJ0 4 = lyp7.filterMap (fun i => lw_tbl[i]?) := by decide +kernel
  have hg : (u_ws RJ0 TJ0 4).all goodWord = true := by decide +kernel
  intro w hw
  refine List.mem_filter.mpr ⟨?_, List.all_eq_true.mp hg w hw⟩
  rw [h] at hw
  obtain ⟨i, -, hi⟩ := List.mem_filterMap.mp hw
  exact List.mem_append_left _ (List.mem_of_getElem? hi)
theorem cl7 : clK 7 RJ0 TJ0 4 := ⟨rfl, cl7_in, tyJ0_ok, nmJ0⟩
theorem df7 : ∀ k, k < 4 → defaultValue (fty 7 k) = dfv (fty 7 k) := by
  have h : (List.range 4).all (fun k => decide (defaultValue (fty 7 k) = dfv (fty 7 k))) = true := by decide +kernel
  intro k hk
  exact of_decide_eq_true (List.all_eq_true.mp h k (List.mem_range.mpr hk))
def lyp8 : List Nat := [677, 679, 681, 683]
theorem cl8_in : ∀ w ∈ u_ws RJ4 TJ4 4, w ∈ tblG := by
  have h : u_ws RJ4 TJ4 4 = lyp8.filterMap (fun i => lw_tbl[i]?) := by decide +kernel
  have hg : (u_ws RJ4 TJ4 4).all goodWord = true := by decide +kernel
  intro w hw
  refine List.mem_filter.mpr ⟨?_, List.all_eq_true.mp hg w hw⟩
  rw [h] at hw
  obtain ⟨i, -, hi⟩ := List.mem_filterMap.mp hw
  exact List.mem_append_left _ (List.mem_of_getElem? hi)
theorem cl8 : clK 8 RJ4 TJ4 4 := ⟨rfl, cl8_in, tyJ4_ok, nmJ4⟩
theorem df8 : ∀ k, k < 4 → defaultValue (fty 8 k) = dfv (fty 8 k) := by
  have h : (List.range 4).all (fun k => decide (defaultValue (fty 8 k) = dfv (fty 8 k))) = true := by decide +kernel
  intro k hk
  exact of_decide_eq_true (List.all_eq_true.mp h k (List.mem_range.mpr hk))
theorem oi1 : Cond.instanceMethod Lib.objectInit ∈ tblG := tG 352 (by decide +kernel) rfl
theorem oi2 : Cond.code Lib.objectInit ⟨#[0xb1]⟩ 1 none ∈ tblG := tG 353 (by decide +kernel) rfl
theorem mmmin1 : Cond.static Lib.Math.min.name ∈ tblG := tG 729 (by decide +kernel) rfl
theorem mmmin2 : Cond.code Lib.Math.min.name Lib.Math.min.code 2 (some .int) ∈ tblG := tG 730 (by decide +kernel) rfl
theorem mmmax1 : Cond.static Lib.Math.max.name ∈ tblG := tG 711 (by decide +kernel) rfl
theorem mmmax2 : Cond.code Lib.Math.max.name Lib.Math.max.code 2 (some .int) ∈ tblG := tG 712 (by decide +kernel) rfl
theorem mmi : Cond.initialized "java/lang/Math" ∈ tblG := tG 99 (by decide +kernel) rfl
theorem aaI : Cond.arrayClass .int ∈ tblG := tG 442 (by decide +kernel) rfl
theorem aaZ : Cond.arrayClass .boolean ∈ tblG := tG 534 (by decide +kernel) rfl
theorem aaJ : Cond.arrayClass .long ∈ tblG := tG 443 (by decide +kernel) rfl
theorem aaB : Cond.arrayClass .byte ∈ tblG := tG 686 (by decide +kernel) rfl
def FU : Nat := 4096
def wlet {α : Type} (x : Sg) (k : Sg → α) : α := k x
theorem wlet_s {α : Type} {x : Sg} {k : Sg → Option α} {r : α} (h : wlet x k = some r) : ∃ σ1, σ1 = x ∧ k σ1 = some r := ⟨x, rfl, h⟩
theorem xLe_0 {M : List (Option Value)} : xLe [] M := trivial
theorem xLe_n {L M : List (Option Value)} {w : Option Value} (h : xLe L M) : xLe (none :: L) (w :: M) := h
theorem xLe_s {L M : List (Option Value)} {v : Value} (h : xLe L M) : xLe (some v :: L) (some v :: M) := ⟨rfl, h⟩
def xEn : List Value → List (Option Value)
  | [] => []
  | v :: vs => if v.category = 2 then some v :: none :: xEn vs else some v :: xEn vs
def xEntN (vs : List Value) (n : Nat) : List (Option Value) := xEn vs ++ List.replicate (n - (xEn vs).length) none
theorem xEn_ok : ∀ (vs : List Value) (k i : Nat) (v : Value), (xEn vs)[i]? = some (some v) → (k + i, v) ∈ lv_args k vs
  | [], k, i, v, h => by simp [xEn] at h
  | w :: vs, k, i, v, h => by
    unfold xEn at h
    unfold lv_args
    split at h
    · rename_i hc
      rw [if_pos hc]
      match i, h with
      | 0, h =>
        simp at h
        subst h
        exact List.mem_cons_self
      | 1, h => simp at h
      | i + 2, h =>
        have := xEn_ok vs (k + 2) i v (by simpa using h)
        rw [show k + (i + 2) = k + 2 + i by omega]
        exact List.mem_cons_of_mem _ this
    · rename_i hc
      rw [if_neg hc]
      match i, h with
      | 0, h =>
        simp at h
        subst h
        exact List.mem_cons_self
      | i + 1, h =>
        have := xEn_ok vs (k + 1) i v (by simpa using h)
        rw [show k + (i + 1) = k + 1 + i by omega]
        exact List.mem_cons_of_mem _ this
theorem xEntN_ok (vs : List Value) (n : Nat) : ∀ (i : Nat) (v : Value), (xEntN vs n)[i]? = some (some v) → (i, v) ∈ lv_args 0 vs := by
  intro i v h
  unfold xEntN at h
  by_cases hl : i < (xEn vs).length
  · rw [List.getElem?_append_left hl] at h
    have := xEn_ok vs 0 i v h
    rwa [Nat.zero_add] at this
  · rw [List.getElem?_append_right (by omega)] at h
    have := List.mem_of_getElem? h
    simp at this
theorem br_em {c A : Prop} (a : c → A) (b : ¬ c → A) : A := (Classical.em c).elim a b
theorem sw_ne {x d : Int32} {k : Int} (h : ¬ x = d) (hk : d.toInt = k) : ¬ x.toInt = k := fun e => h (Int32.toInt_inj.mp (e.trans hk.symm))
theorem ckN_s {x : Int32} (h : ckN x = true) : ¬ x = 0 := by
  unfold ckN at h
  simpa using h
theorem ckM_s {x : Int64} (h : ckM x = true) : ¬ x = 0 := by
  unfold ckM at h
  simpa using h
theorem lcmp_eq {x y : Int64} : lg_cmp x y = 0 ↔ x = y := by
  unfold lg_cmp
  by_cases h1 : x > y
  · rw [if_pos h1]
    exact ⟨fun h => absurd h (by decide), fun h => absurd (h ▸ h1) (by rw [gt_iff_lt, Int64.lt_iff_toInt_lt]; omega)⟩
  · rw [if_neg h1]
    by_cases h2 : x = y
    · rw [if_pos h2]; exact ⟨fun _ => h2, fun _ => rfl⟩
    · rw [if_neg h2]; exact ⟨fun h => absurd h (by decide), fun h => absurd h h2⟩
theorem lcmp_lt {x y : Int64} : lg_cmp x y < 0 ↔ x < y := by
  unfold lg_cmp
  by_cases h1 : x > y
  · rw [if_pos h1]
    refine ⟨fun h => absurd h (by decide), fun h => ?_⟩
    rw [gt_iff_lt, Int64.lt_iff_toInt_lt] at h1
    rw [Int64.lt_iff_toInt_lt] at h
    omega
  · rw [if_neg h1]
    by_cases h2 : x = y
    · rw [if_pos h2]
      refine ⟨fun h => absurd h (by decide), fun h => ?_⟩
      rw [h2, Int64.lt_iff_toInt_lt] at h
      omega
    · rw [if_neg h2]
      refine ⟨fun _ => ?_, fun _ => by decide⟩
      rw [gt_iff_lt, Int64.lt_iff_toInt_lt] at h1
      rw [Int64.lt_iff_toInt_lt]
      have : x.toInt ≠ y.toInt := fun e => h2 (Int64.toInt_inj.mp e)
      omega
theorem lcmp_gt {x y : Int64} : 0 < lg_cmp x y ↔ y < x := by
  unfold lg_cmp
  by_cases h1 : x > y
  · rw [if_pos h1]; exact ⟨fun _ => h1, fun _ => by decide⟩
  · rw [if_neg h1]
    by_cases h2 : x = y
    · rw [if_pos h2]; exact ⟨fun h => absurd h (by decide), fun h => absurd h h1⟩
    · rw [if_neg h2]; exact ⟨fun h => absurd h (by decide), fun h => absurd h h1⟩
theorem i32_nlt {x y : Int32} : ¬ x < y ↔ y ≤ x := by
  rw [Int32.lt_iff_toInt_lt, Int32.le_iff_toInt_le]
  omega
theorem i64_nlt {x y : Int64} : ¬ x < y ↔ y ≤ x := by
  rw [Int64.lt_iff_toInt_lt, Int64.le_iff_toInt_le]
  omega
theorem lcmp_ge {x y : Int64} : 0 ≤ lg_cmp x y ↔ y ≤ x := by rw [← i32_nlt, ← i64_nlt, lcmp_lt]
theorem lcmp_le {x y : Int64} : lg_cmp x y ≤ 0 ↔ x ≤ y := by rw [← i32_nlt, ← i64_nlt, lcmp_gt]
def ckC (x : Int32) : Bool := decide (0 ≤ x) && decide (x ≤ 65535)
/-- a word of the text, as a virtual address -/
def ckT (r : Nat) : Bool := decide (1000 ≤ r) && decide (r < 1020)
theorem ckT_s {r : Nat} (h : ckT r = true) : ∃ i, i < 20 ∧ r = 1000 + i := by
  unfold ckT at h
  simp only [Bool.and_eq_true, decide_eq_true_eq] at h
  exact ⟨r - 1000, by omega, by omega⟩
theorem ad_X {E : Ev} {i : Nat} (hi : i < 1000) : ad E (1000 + i) = eX E i := by
  unfold ad
  rw [if_neg (by omega), if_pos (by omega)]
  exact congrArg _ (by omega)
section XS
variable {E : Ev} {p : Program} {l : Launch} {e : Env} {R : Room} {s : State} {m : MethodId} {args : Array Value} {below : List Frame} {meth : Method} {c : Code} {Q : State → Prop} {own : String} {cc : ByteArray} {nL kc ks : Nat} {σ : Sg} {pc : Nat} {L : List (Option Value)} {st : List Value}
theorem x_eq {σ1 : Sg} (he : σ1 = σ) (kk : X E p l e R s m args below meth c Q nL kc ks σ1 pc L st) : X E p l e R s m args below meth c Q nL kc ks σ pc L st := he ▸ kk
theorem x_mkE {σ0 σ1 : Sg} {a : Nat} (he : some (gN σ0, mk1 σ0) = some (a, σ1)) (kk : X E p l e R s m args below meth c Q nL kc ks σ1 pc L (.ref (ad E a) :: st)) : X E p l e R s m args below meth c Q nL kc ks (mk1 σ0) pc L (.ref (ad E (gN σ0)) :: st) := by
  cases he
  exact kk
theorem x_lif_eq (C : Cx E p s m args meth c own cc nL) {x y : Int64} {o : Int} {tgt : Nat} (hd : decode cc pc = .ok (.ifCond .eq o, 3)) (ht : (pc : Int) + o = (tgt : Int)) (kt : x = y → X E p l e R s m args below meth c Q nL kc ks σ tgt L st) (kf : ¬ x = y → X E p l e R s m args below meth c Q nL kc ks σ (pc + 3) L st) : X E p l e R s m args below meth c Q nL kc ks σ pc L (.int (lg_cmp x y) :: st) := x_if_eq C hd ht (fun h => kt (lcmp_eq.mp h)) (fun h => kf (fun z => h (lcmp_eq.mpr z)))
theorem x_lif_ne (C : Cx E p s m args meth c own cc nL) {x y : Int64} {o : Int} {tgt : Nat} (hd : decode cc pc = .ok (.ifCond .ne o, 3)) (ht : (pc : Int) + o = (tgt : Int)) (kf : x = y → X E p l e R s m args below meth c Q nL kc ks σ (pc + 3) L st) (kt : ¬ x = y → X E p l e R s m args below meth c Q nL kc ks σ tgt L st) : X E p l e R s m args below meth c Q nL kc ks σ pc L (.int (lg_cmp x y) :: st) := x_if_ne C hd ht (fun h => kf (lcmp_eq.mp h)) (fun h => kt (fun z => h (lcmp_eq.mpr z)))
theorem x_lif_lt (C : Cx E p s m args meth c own cc nL) {x y : Int64} {o : Int} {tgt : Nat} (hd : decode cc pc = .ok (.ifCond .lt o, 3)) (ht : (pc : Int) + o = (tgt : Int)) (kt : x < y → X E p l e R s m args below meth c Q nL kc ks σ tgt L st) (kf : ¬ x < y → X E p l e R s m args below meth c Q nL kc ks σ (pc + 3) L st) : X E p l e R s m args below meth c Q nL kc ks σ pc L (.int (lg_cmp x y) :: st) := x_if_lt C hd ht (fun h => kt (lcmp_lt.mp h)) (fun h => kf (fun z => h (lcmp_lt.mpr z)))
theorem x_lif_ge (C : Cx E p s m args meth c own cc nL) {x y : Int64} {o : Int} {tgt : Nat} (hd : decode cc pc = .ok (.ifCond .ge o, 3)) (ht : (pc : Int) + o = (tgt : Int)) (kt : y ≤ x → X E p l e R s m args below meth c Q nL kc ks σ tgt L st) (kf : ¬ y ≤ x → X E p l e R s m args below meth c Q nL kc ks σ (pc + 3) L st) : X E p l e R s m args below meth c Q nL kc ks σ pc L (.int (lg_cmp x y) :: st) := x_if_ge C hd ht (fun h => kt (lcmp_ge.mp h)) (fun h => kf (fun z => h (lcmp_ge.mpr z)))
theorem x_lif_gt (C : Cx E p s m args meth c own cc nL) {x y : Int64} {o : Int} {tgt : Nat} (hd : decode cc pc = .ok (.ifCond .gt o, 3)) (ht : (pc : Int) + o = (tgt : Int)) (kt : y < x → X E p l e R s m args below meth c Q nL kc ks σ tgt L st) (kf : ¬ y < x → X E p l e R s m args below meth c Q nL kc ks σ (pc + 3) L st) : X E p l e R s m args below meth c Q nL kc ks σ pc L (.int (lg_cmp x y) :: st) := x_if_gt C hd ht (fun h => kt (lcmp_gt.mp h)) (fun h => kf (fun z => h (lcmp_gt.mpr z)))
theorem x_lif_le (C : Cx E p s m args meth c own cc nL) {x y : Int64} {o : Int} {tgt : Nat} (hd : decode cc pc = .ok (.ifCond .le o, 3)) (ht : (pc : Int) + o = (tgt : Int)) (kt : x ≤ y → X E p l e R s m args below meth c Q nL kc ks σ tgt L st) (kf : ¬ x ≤ y → X E p l e R s m args below meth c Q nL kc ks σ (pc + 3) L st) : X E p l e R s m args below meth c Q nL kc ks σ pc L (.int (lg_cmp x y) :: st) := x_if_le C hd ht (fun h => kt (lcmp_le.mp h)) (fun h => kf (fun z => h (lcmp_le.mpr z)))
/-! calls that answer, calls that don't -/
theorem x_callV1 (C : Cx E p s m args meth c own cc nL) {idx ci a N n h mc ms k : Nat} {y : MethodName} {b : ByteArray} {rt : Option FieldType} {T : u_T} {As rest : List Value} {r : Value} {σ' : Sg} {st0 : List Value} (hM : Mt E l y b n rt h mc ms (.ref (ad E a) :: As) σ (some r) σ') (hc : clK ci y.cls T N) (hk : ckO σ ci a = true) (cb : cB own idx y b n rt k) (hin : Cond.instanceMethod y ∈ tblG) (hse : Cond.selects y.cls y y ∈ tblG) (hst : st0 = As.reverse ++ .ref (ad E a) :: rest) (hk2 : As.length = k) (hW : (rest.map fun v => v.category).sum ≤ 8)
    (hR : h + 1 ≤ R.frames ∧ 8 + (n + 11) + 40 * h ≤ R.locals ∧ kc + mc ≤ R.cells ∧ ks + ms ≤ R.slots) (hd : decode cc pc = .ok (.invokevirtual idx, 3)) (kk : X E p l e R s m args below meth c Q nL (kc + mc) (ks + ms) σ' (pc + 3) L (r :: rest)) : X E p l e R s m args below meth c Q nL kc ks σ pc L st0 := x_callV C hM hc hk cb hin hse hst hk2 hW hR hd kk
theorem x_callV0 (C : Cx E p s m args meth c own cc nL) {idx ci a N n h mc ms k : Nat} {y : MethodName} {b : ByteArray} {rt : Option FieldType} {T : u_T} {As rest : List Value}  {σ' : Sg} {st0 : List Value} (hM : Mt E l y b n rt h mc ms (.ref (ad E a) :: As) σ none σ') (hc : clK ci y.cls T N) (hk : ckO σ ci a = true) (cb : cB own idx y b n rt k) (hin : Cond.instanceMethod y ∈ tblG) (hse : Cond.selects y.cls y y ∈ tblG) (hst : st0 = As.reverse ++ .ref (ad E a) :: rest) (hk2 : As.length = k) (hW : (rest.map fun v => v.category).sum ≤ 8)
    (hR : h + 1 ≤ R.frames ∧ 8 + (n + 11) + 40 * h ≤ R.locals ∧ kc + mc ≤ R.cells ∧ ks + ms ≤ R.slots) (hd : decode cc pc = .ok (.invokevirtual idx, 3)) (kk : X E p l e R s m args below meth c Q nL (kc + mc) (ks + ms) σ' (pc + 3) L (rest)) : X E p l e R s m args below meth c Q nL kc ks σ pc L st0 := x_callV C hM hc hk cb hin hse hst hk2 hW hR hd kk
theorem x_callS1 (C : Cx E p s m args meth c own cc nL) {idx n h mc ms k : Nat} {y : MethodName} {b : ByteArray} {rt : Option FieldType} {As rest : List Value} {r : Value} {σ' : Sg} {st0 : List Value} (hM : Mt E l y b n rt h mc ms As σ (some r) σ') (cb : cB own idx y b n rt k) (hin : Cond.static y ∈ tblG) (hst : st0 = As.reverse ++ rest) (hk2 : As.length = k) (hW : (rest.map fun v => v.category).sum ≤ 8)
    (hR : h + 1 ≤ R.frames ∧ 8 + (n + 11) + 40 * h ≤ R.locals ∧ kc + mc ≤ R.cells ∧ ks + ms ≤ R.slots) (hd : decode cc pc = .ok (.invokestatic idx, 3)) (kk : X E p l e R s m args below meth c Q nL (kc + mc) (ks + ms) σ' (pc + 3) L (r :: rest)) : X E p l e R s m args below meth c Q nL kc ks σ pc L st0 := x_callS C hM cb hin hst hk2 hW hR hd kk
theorem x_callS0 (C : Cx E p s m args meth c own cc nL) {idx n h mc ms k : Nat} {y : MethodName} {b : ByteArray} {rt : Option FieldType} {As rest : List Value}  {σ' : Sg} {st0 : List Value} (hM : Mt E l y b n rt h mc ms As σ none σ') (cb : cB own idx y b n rt k) (hin : Cond.static y ∈ tblG) (hst : st0 = As.reverse ++ rest) (hk2 : As.length = k) (hW : (rest.map fun v => v.category).sum ≤ 8)
    (hR : h + 1 ≤ R.frames ∧ 8 + (n + 11) + 40 * h ≤ R.locals ∧ kc + mc ≤ R.cells ∧ ks + ms ≤ R.slots) (hd : decode cc pc = .ok (.invokestatic idx, 3)) (kk : X E p l e R s m args below meth c Q nL (kc + mc) (ks + ms) σ' (pc + 3) L (rest)) : X E p l e R s m args below meth c Q nL kc ks σ pc L st0 := x_callS C hM cb hin hst hk2 hW hR hd kk
theorem x_callI0 (C : Cx E p s m args meth c own cc nL) {idx a n h mc ms k : Nat} {y : MethodName} {b : ByteArray} {As rest : List Value}  {σ' : Sg} {st0 : List Value} (hM : Mt E l y b n none h mc ms (.ref (ad E a) :: As) σ none σ') (cb : cB own idx y b n none k) (hname : y.name = "<init>") (hin : Cond.instanceMethod y ∈ tblG) (hst : st0 = As.reverse ++ .ref (ad E a) :: rest) (hk2 : As.length = k) (hW : (rest.map fun v => v.category).sum ≤ 8)
    (hR : h + 1 ≤ R.frames ∧ 8 + (n + 11) + 40 * h ≤ R.locals ∧ kc + mc ≤ R.cells ∧ ks + ms ≤ R.slots) (hd : decode cc pc = .ok (.invokespecial idx, 3)) (kk : X E p l e R s m args below meth c Q nL (kc + mc) (ks + ms) σ' (pc + 3) L (rest)) : X E p l e R s m args below meth c Q nL kc ks σ pc L st0 := x_callI C hM cb hname hin hst hk2 hW hR hd kk
/-! the words of the text -/
theorem x_getTok (C : Cx E p s m args meth c own cc nL) (i : Nat) (hi : i < 20) {idx : Nat} (hl : sL own idx "Prorates$Token" (tokN.getD i "") "LProrates$Token;") (hd : decode cc pc = .ok (.getstatic idx, 3)) (kk : X E p l e R s m args below meth c Q nL kc ks σ (pc + 3) L (.ref (ad E (1000 + i)) :: st)) : X E p l e R s m args below meth c Q nL kc ks σ pc L st := by
  refine x_gets C (C.2.2.2.2.2.1.2.1.1 i hi).1 hl hd ?_
  rw [← ad_X (by omega)]
  exact kk
theorem x_getToks (C : Cx E p s m args meth c own cc nL) {idx : Nat} (hl : sL own idx "Prorates$Reader" "TOKENS" "[LProrates$Token;") (hd : decode cc pc = .ok (.getstatic idx, 3)) (kk : X E p l e R s m args below meth c Q nL kc ks σ (pc + 3) L (.ref (ad E 1020) :: st)) : X E p l e R s m args below meth c Q nL kc ks σ pc L st :=
  x_gets C C.2.2.2.2.2.1.2.2.2.1 hl hd (by rw [← ad_X (by decide)]; exact kk)
theorem x_getSwm (C : Cx E p s m args meth c own cc nL) {idx : Nat} (hl : sL own idx "Prorates$1" "$SwitchMap$Prorates$Token" "[I") (hd : decode cc pc = .ok (.getstatic idx, 3)) (kk : X E p l e R s m args below meth c Q nL kc ks σ (pc + 3) L (.ref (ad E 1021) :: st)) : X E p l e R s m args below meth c Q nL kc ks σ pc L st :=
  x_gets C C.2.2.2.2.2.1.2.2.2.2.2.1 hl hd (by rw [← ad_X (by decide)]; exact kk)
theorem x_alenTok (C : Cx E p s m args meth c own cc nL) (hd : decode cc pc = .ok (.arraylength, 1)) (kk : X E p l e R s m args below meth c Q nL kc ks σ (pc + 1) L (.int 20 :: st)) : X E p l e R s m args below meth c Q nL kc ks σ pc L (.ref (ad E 1020) :: st) := by
  rw [show ad E 1020 = eX E 20 from ad_X (i := 20) (by decide)]
  exact x_alenX C C.2.2.2.2.2.1.2.2.2.2.1 hd kk
theorem x_aaldTok (C : Cx E p s m args meth c own cc nL) {i : Int32} (hi : inb i 20 = true) (hd : decode cc pc = .ok (.aaload, 1)) (kk : X E p l e R s m args below meth c Q nL kc ks σ (pc + 1) L (.ref (ad E (1000 + i.toNatClampNeg)) :: st)) : X E p l e R s m args below meth c Q nL kc ks σ pc L (.int i :: .ref (ad E 1020) :: st) := by
  rw [show ad E 1020 = eX E 20 from ad_X (i := 20) (by decide)]
  have hi2 := (inb_s hi).2
  refine x_aaldX C C.2.2.2.2.2.1.2.2.2.2.1 hi hd ?_
  rw [← ad_X (by omega)]
  exact kk
theorem x_ialdSwm (C : Cx E p s m args meth c own cc nL) {i : Int32} (hi : inb i 20 = true) (hd : decode cc pc = .ok (.iaload, 1)) (kk : X E p l e R s m args below meth c Q nL kc ks σ (pc + 1) L (.int (swm.getD i.toNatClampNeg 0) :: st)) : X E p l e R s m args below meth c Q nL kc ks σ pc L (.int i :: .ref (ad E 1021) :: st) := by
  rw [show ad E 1021 = eX E 21 from ad_X (i := 21) (by decide)]
  exact x_ialdX C C.2.2.2.2.2.1.2.2.2.2.2.2.1 hi hd kk
theorem x_tokCode (C : Cx E p s m args meth c own cc nL) {r idx : Nat} (hr : ckT r = true) (hl : sL own idx "Prorates$Token" "code" "J") (hd : decode cc pc = .ok (.getfield idx, 3)) (kk : X E p l e R s m args below meth c Q nL kc ks σ (pc + 3) L (.long (tokC.getD (r - 1000) 0) :: st)) : X E p l e R s m args below meth c Q nL kc ks σ pc L (.ref (ad E r) :: st) := by
  obtain ⟨i, hi, rfl⟩ := ckT_s hr
  rw [ad_X (by omega)]
  refine x_getX C (C.2.2.2.2.2.1.2.2.1 i hi) hl hd ?_
  rw [show 1000 + i - 1000 = i by omega] at kk
  exact kk
theorem tok_inj (C : Cx E p s m args meth c own cc nL) {x y : Nat} (hx : ckT x = true) (hy : ckT y = true) (h : ad E x = ad E y) : x = y := by
  obtain ⟨i, hi, rfl⟩ := ckT_s hx
  obtain ⟨j, hj, rfl⟩ := ckT_s hy
  rw [ad_X (by omega), ad_X (by omega)] at h
  rw [C.2.2.2.2.2.1.2.1.2 i j hi hj h]
theorem x_tcmp_eq (C : Cx E p s m args meth c own cc nL) {x y : Nat} {o : Int} {tgt : Nat} (hk : (ckT x && ckT y) = true) (hd : decode cc pc = .ok (.if_acmp .eq o, 3)) (ht : (pc : Int) + o = (tgt : Int)) (kt : x = y → X E p l e R s m args below meth c Q nL kc ks σ tgt L st) (kf : ¬ x = y → X E p l e R s m args below meth c Q nL kc ks σ (pc + 3) L st) : X E p l e R s m args below meth c Q nL kc ks σ pc L (.ref (ad E y) :: .ref (ad E x) :: st) := by
  rw [Bool.and_eq_true] at hk
  exact x_acmp_eq C hd ht (fun h => kt (tok_inj C hk.1 hk.2 h)) (fun h => kf (fun z => h (congrArg _ z)))
theorem x_tcmp_ne (C : Cx E p s m args meth c own cc nL) {x y : Nat} {o : Int} {tgt : Nat} (hk : (ckT x && ckT y) = true) (hd : decode cc pc = .ok (.if_acmp .ne o, 3)) (ht : (pc : Int) + o = (tgt : Int)) (kf : x = y → X E p l e R s m args below meth c Q nL kc ks σ (pc + 3) L st) (kt : ¬ x = y → X E p l e R s m args below meth c Q nL kc ks σ tgt L st) : X E p l e R s m args below meth c Q nL kc ks σ pc L (.ref (ad E y) :: .ref (ad E x) :: st) := by
  rw [Bool.and_eq_true] at hk
  exact x_acmp_ne C hd ht (fun h => kf (tok_inj C hk.1 hk.2 h)) (fun h => kt (fun z => h (congrArg _ z)))
/-! calls of members of the JDK -/
theorem x_callVO (C : Cx E p s m args meth c own cc nL) {idx a n h mc ms k : Nat} {y : MethodName} {b : ByteArray} {rt : Option FieldType} {As rest : List Value} {r : Value} {σ' : Sg} {st0 : List Value} (hM : Mt E l y b n rt h mc ms (.ref a :: As) σ (some r) σ') (hO : va_O y.cls a (eF E) s (eH E)) (cb : cB own idx y b n rt k) (hin : Cond.instanceMethod y ∈ tblG) (hse : Cond.selects y.cls y y ∈ tblG) (hst : st0 = As.reverse ++ .ref a :: rest) (hk2 : As.length = k) (hW : (rest.map fun v => v.category).sum ≤ 8)
    (hR : h + 1 ≤ R.frames ∧ 8 + (n + 11) + 40 * h ≤ R.locals ∧ kc + mc ≤ R.cells ∧ ks + ms ≤ R.slots) (hd : decode cc pc = .ok (.invokevirtual idx, 3)) (kk : X E p l e R s m args below meth c Q nL (kc + mc) (ks + ms) σ' (pc + 3) L (r :: rest)) : X E p l e R s m args below meth c Q nL kc ks σ pc L st0 := by
  obtain ⟨hl, hcode, hini, hy, hlen⟩ := cb
  refine x_back (a := (Value.ref a :: As).toArray) (r := some r) (fun H locs ls hH hL => ?_) kk
  obtain ⟨cell, o1, o2, o3, o4⟩ := hO
  have hp : PreV s H y.cls a (PdX E (.ref a :: As) σ) As := ⟨PdX.blind, ⟨cell, low_of hH o1, o2, o3⟩, fun U hU hw => ⟨rfl, by rw [hU]; exact hH, C.2.2.2.2.2.1.warm hw⟩⟩
  have hlen2 : ∀ sig, parseMethodDescriptor y.desc = some sig → k = sig.parameters.length := fun sig h => by
    rw [h] at hlen
    exact (Option.some.inj hlen).symm
  rcases hl with hl | ⟨host, hl⟩
  · exact va_runV ⟨C.1, C.2.1, C.2.2.1, C.2.2.2.1, C.2.2.2.2.1⟩ hM ⟨⟨rfl, rfl, hR.1, hR.2.1, tbl_ws C hcode, List.mem_cons_self, C.2.2.2.2.1 _ hcode, C.2.2.2.2.1 _ hini, hy, hlen2, C.2.2.2.2.1 _ hl⟩, C.2.2.2.2.1 _ hin, C.2.2.2.2.1 _ hse⟩ hp rfl hk2 hL.1 hst (lv_room hW) hd ⟨hR.2.2.1, hR.2.2.2⟩
  · exact va_runVN ⟨C.1, C.2.1, C.2.2.1, C.2.2.2.1, C.2.2.2.2.1⟩ hM ⟨⟨⟨rfl, rfl, hR.1, hR.2.1, tbl_ws C hcode, List.mem_cons_self⟩, C.2.2.2.2.1 _ hcode, C.2.2.2.2.1 _ hini, hy, hlen2, KN_of C hl rfl⟩, C.2.2.2.2.1 _ hin, C.2.2.2.2.1 _ hse⟩ hp rfl hk2 hL.1 hst (lv_room hW) hd ⟨hR.2.2.1, hR.2.2.2⟩
theorem mJord (E : Ev) (l : Launch) {i : Nat} (hi : i < 20) {σ : Sg} : Mt E l yJx29ce0_ordinal_8abf5 cJx29ce0_ordinal_8abf5 1 (some .int) 1 0 0 [.ref (eX E i)] σ (some (.int (nI i))) σ := by
  refine Mt.ofX (by decide) (Nat.le_of_ble_eq_true rfl) (L0 := [some (.ref (eX E i))]) (xEntN_ok [.ref (eX E i)] 1) (fun p e s m args below meth c C hr hn => ?_)
  refine x_aload_n (pc := 0) C dJx29ce0_ordinal_8abf5_0 rfl rfl ?_
  have h := ((C.2.2.2.2.2.1.2.1.1 i hi).2.2 _ List.mem_cons_self)
  refine x_getX (pc := 1) C h (Or.inl (tG 1417 (by decide +kernel) rfl)) dJx29ce0_ordinal_8abf5_1 ?_
  have e1 : ([0, 1, 2, 3, 4, 5, 6, 7, 8, 9, 10, 11, 12, 13, 14, 15, 16, 17, 18, 19] : List Int32).getD i 0 = nI i := by
    have h9 : ∀ i, i < 20 → ([0, 1, 2, 3, 4, 5, 6, 7, 8, 9, 10, 11, 12, 13, 14, 15, 16, 17, 18, 19] : List Int32).getD i 0 = nI i := by decide +kernel
    exact h9 i hi
  show Y E p l e _ s m args below meth c _ σ 0 0 1 0 0 σ _ _ [.int (([0, 1, 2, 3, 4, 5, 6, 7, 8, 9, 10, 11, 12, 13, 14, 15, 16, 17, 18, 19] : List Int32).getD i 0)]
  rw [e1]
  exact x_iret C hr dJx29ce0_ordinal_8abf5_4
theorem x_ordX3 (C : Cx E p s m args meth c RX3 cc nL) {r : Nat} (hr : ckT r = true) (hR : 1 + 1 ≤ R.frames ∧ 8 + (1 + 11) + 40 * 1 ≤ R.locals ∧ kc + 0 ≤ R.cells ∧ ks + 0 ≤ R.slots) (hW : (st.map fun v => v.category).sum ≤ 8) (hd : decode cc pc = .ok (.invokevirtual 105, 3)) (kk : X E p l e R s m args below meth c Q nL (kc + 0) (ks + 0) σ (pc + 3) L (.int (nI (r - 1000)) :: st)) : X E p l e R s m args below meth c Q nL kc ks σ pc L (.ref (ad E r) :: st) := by
  obtain ⟨i, hi, rfl⟩ := ckT_s hr
  rw [ad_X (by omega)]
  rw [show 1000 + i - 1000 = i by omega] at kk
  have hM := mJord E l hi (σ := σ)
  refine x_back (a := (Value.ref (eX E i) :: []).toArray) (r := some (.int (nI i))) (fun H locs ls hH hL => ?_) kk
  obtain ⟨cell, o1, o2, o3, o4⟩ := (C.2.2.2.2.2.1.2.1.1 i hi).2.1
  have hp : PreV s H "Prorates$Token" (eX E i) (PdX E [.ref (eX E i)] σ) [] := ⟨PdX.blind, ⟨cell, low_of hH o1, o2, o3⟩, fun U hU hw => ⟨rfl, by rw [hU]; exact hH, C.2.2.2.2.2.1.warm hw⟩⟩
  have hcode : Cond.code yJx29ce0_ordinal_8abf5 cJx29ce0_ordinal_8abf5 1 (some .int) ∈ tblG := tG 1053 (by decide +kernel) rfl
  have hin : Cond.instanceMethod yJx29ce0_ordinal_8abf5 ∈ tblG := tG 1052 (by decide +kernel) rfl
  refine va_runU (x := ⟨"Prorates$Token", "ordinal", "()I"⟩) (C := "Prorates$Token") (owner := "java/lang/Enum") (n := 0) ⟨C.1, C.2.1, C.2.2.1, C.2.2.2.1, C.2.2.2.2.1⟩ hM ⟨⟨rfl, rfl, hR.1, hR.2.1, tbl_ws C hcode, List.mem_cons_self⟩, C.2.2.2.2.1 _ hcode, C.2.2.2.2.1 _ (tG 89 (by decide +kernel) rfl), ⟨by decide, by decide⟩, fun sig hs => ?_, C.2.2.2.2.1 _ (tG 1048 (by decide +kernel) rfl), C.2.2.2.2.1 _ (tG 1049 (by decide +kernel) rfl), va_Decl.of (C.2.2.2.2.1 _ hin) (C.2.2.2.2.1 _ hcode), C.2.2.2.2.1 _ (tG 1051 (by decide +kernel) rfl), C.2.2.2.2.1 _ hin⟩ hp rfl rfl hL.1 rfl (lv_room hW) hd ⟨hR.2.2.1, hR.2.2.2⟩
  have h9 : (parseMethodDescriptor "()I").map (fun d => d.parameters.length) = some 0 := by decide +kernel
  have hs : parseMethodDescriptor "()I" = some sig := hs
  rw [hs] at h9
  exact (Option.some.inj h9).symm
theorem mJpre (E : Ev) (l : Launch) {σ : Sg} {i n : Int32} {q : Value} (h : inb i n.toNatClampNeg = true) (hq : q = .null ∨ ∃ a, q = .ref a) : Mt E l yJ3_checkIndex_8e157 cJ3_checkIndex_8e157 3 (some .int) 1 0 0 [.int i, .int n, q] σ (some (.int i)) σ := by
  have h1 : ¬ i < 0 := fun z => (inb_s h).1 (Or.inl z)
  have h2 : i < n := by
    have := (inb_s h).2
    rw [Int32.lt_iff_toInt_lt]
    have h3 : ¬ i.toInt < 0 := fun z => h1 (by rw [Int32.lt_iff_toInt_lt]; exact z)
    unfold Int32.toNatClampNeg at this
    omega
  have hcq : q.category = 1 := by rcases hq with rfl | ⟨a, rfl⟩ <;> rfl
  refine Mt.ofX (by decide) (by rcases hq with rfl | ⟨a, rfl⟩ <;> exact Nat.le_of_ble_eq_true rfl) (L0 := [some (.int i), some (.int n), some q]) (by
    have := xEntN_ok [.int i, .int n, q] 3
    rcases hq with rfl | ⟨a, rfl⟩ <;> exact this) (fun p e s m args below meth c C hr hn => ?_)
  refine x_iload_n (pc := 0) C dJ3_checkIndex_8e157_0 rfl rfl ?_
  refine x_if_lt (pc := 1) (tgt := 9) C dJ3_checkIndex_8e157_1 (by decide) (fun z => absurd z h1) (fun _ => ?_)
  refine x_iload_n (pc := 4) C dJ3_checkIndex_8e157_4 rfl rfl ?_
  refine x_iload_n (pc := 5) C dJ3_checkIndex_8e157_5 rfl rfl ?_
  refine x_icmp_lt (pc := 6) (tgt := 16) C dJ3_checkIndex_8e157_6 (by decide) (fun _ => ?_) (fun z => absurd h2 z)
  refine x_iload_n (pc := 16) C dJ3_checkIndex_8e157_16 rfl rfl ?_
  exact x_iret C hr dJ3_checkIndex_8e157_17
theorem cJpre : cB RJ0 1059 yJ3_checkIndex_8e157 cJ3_checkIndex_8e157 3 (some .int) 3 := ⟨Or.inl (tG 921 (by decide +kernel) rfl), tG 923 (by decide +kernel) rfl, tG 102 (by decide +kernel) rfl, by decide +kernel, by decide +kernel⟩
theorem mJci (E : Ev) (l : Launch) {σ : Sg} {i n : Int32} (h : inb i n.toNatClampNeg = true) : Mt E l yJ0_checkIndex_df160 cJ0_checkIndex_df160 2 none 2 0 0 [.int i, .int n] σ none σ := by
  refine Mt.ofX (by decide) (Nat.le_of_ble_eq_true rfl) (L0 := [some (.int i), some (.int n)]) (xEntN_ok [.int i, .int n] 2) (fun p e s m args below meth c C hr hn => ?_)
  refine x_iload_n (pc := 0) C dJ0_checkIndex_df160_0 rfl rfl ?_
  refine x_iload_n (pc := 1) C dJ0_checkIndex_df160_1 rfl rfl ?_
  have hz := kxQ C.2.2.2.2.2.1.2
  obtain ⟨q, hq, hZ⟩ : ∃ q : Value, (q = .null ∨ ∃ a, q = .ref a) ∧ va_Z "jdk/internal/util/Preconditions" "SIOOBE_FORMATTER" "Ljava/util/function/BiFunction;" q (eF E) s (eH E) := by
    rcases hz with hz | ⟨t, hz⟩
    · exact ⟨_, Or.inl rfl, hz⟩
    · exact ⟨_, Or.inr ⟨t, rfl⟩, hz⟩
  refine x_gets (pc := 2) C hZ (Or.inl (tG 751 (by decide +kernel) rfl)) dJ0_checkIndex_df160_2 ?_
  refine x_callS1 (pc := 5) C (mJpre E l h hq) cJpre (tG 922 (by decide +kernel) rfl) rfl rfl (Nat.le_of_ble_eq_true rfl) ⟨Nat.le_of_ble_eq_true rfl, Nat.le_of_ble_eq_true rfl, Nat.le_of_ble_eq_true rfl, Nat.le_of_ble_eq_true rfl⟩ dJ0_checkIndex_df160_5 ?_
  refine x_pop (pc := 8) C dJ0_checkIndex_df160_8 rfl ?_
  exact x_vret C hr dJ0_checkIndex_df160_9
def DJ0_checkIndex_df160 (l0 l1 : Int32) (σ : Sg) : Option (Unit × Sg) := chk (inb l0 l1.toNatClampNeg) (some ((), σ))
theorem mJ0_checkIndex_df160 (E : Ev) (l : Launch) {l0 l1 : Int32} {σ : Sg} {r : Unit} {σ' : Sg} (h : DJ0_checkIndex_df160 l0 l1 σ = some (r, σ')) : Mt E l yJ0_checkIndex_df160 cJ0_checkIndex_df160 2 none 2 0 0 [.int l0, .int l1] σ none σ' := by
  obtain ⟨k, h⟩ := chk_s h
  cases h
  exact mJci E l k
end XS

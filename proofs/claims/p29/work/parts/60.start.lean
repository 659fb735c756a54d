/-! the law's start: the tables' words, the first calls (printed by wip/gen/law_start.py) -/
theorem kFresh {cI cN : ClassId} {ad : Nat → Nat} {w : va_W} (hw : w = kObj cI cN ad 0 0 0 (fun _ => 0) (fun _ => 0) (fun _ => 0) (fun _ => 0) (fun _ => 0) 0 0 0 0 0 0 0 (fun _ => 0) (fun _ => 0) 0 (fun _ => 0) 0 (fun _ => 0) (fun _ => 0) 0 (fun _ => 0) (fun _ => 0) (fun _ => none) 0 (fun _ => 0)) : kG cI cN (ad 0) 0 (fun _ => 0) 0 0 0 0 w := by
  have g0 : Gd 0 (fun _ => (0 : Int32)) := (Gd.lay (fun _ => 0) (by omega)).ext (fun i hi => (lay_at _ hi).symm)
  refine ⟨ad, 0, 0, (fun _ => 0), (fun _ => 0), (fun _ => 0), (fun _ => 0), 0, 0, 0, (fun _ => 0), (fun _ => 0), (fun _ => none), [], rfl, ⟨⟨g0, Or.inl rfl, fun u hu => by omega⟩, ⟨⟨fun _ => 0, 0, by omega, nI_0.symm, fun t ht => by omega, fun i hi j => ?_⟩, Or.inl rfl⟩, fun K c _ _ _ => Or.inl rfl, fun c L _ _ _ _ => Or.inl rfl, fun j => Int32.le_refl _, Int32.le_refl _, nI_0.symm, by decide, fun j k h => by cases h⟩, ?_⟩
  · show tb 0 j = _
    rw [tb_zero]
    rfl
  · exact ⟨0, (fun _ => 0), 0, (fun _ => 0), (fun _ => 0), 0, (fun _ => 0), (fun _ => 0), 0, (fun _ => 0), by rw [hw]; exact (List.append_nil _).symm⟩
theorem kNest {b : Nat} {s : State} (h : ∀ w ∈ lw_tbl, w.before #[Value.ref b] s = true) (m1 : kNM.all (fun q => decide (Cond.methodLinkNest q.1 q.2.1 q.2.2 "Shortring" ∈ lw_tbl)) = true) (m2 : kNF.all (fun q => decide (Cond.fieldLinkNest q.1 q.2.1 q.2.2.1 q.2.2.2.1 q.2.2.2.2 "Shortring" ∈ lw_tbl)) = true) : kN s :=
  ⟨fun i q hq => va_Nw.of rfl (h _ (of_decide_eq_true (List.all_eq_true.mp m1 q (List.mem_of_getElem? hq)))), fun i q hq => va_Nw.of rfl (h _ (of_decide_eq_true (List.all_eq_true.mp m2 q (List.mem_of_getElem? hq))))⟩
set_option maxRecDepth 20000 in
theorem kNest1 : kNM.all (fun q => decide (Cond.methodLinkNest q.1 q.2.1 q.2.2 "Shortring" ∈ lw_tbl)) = true := by decide +kernel
set_option maxRecDepth 20000 in
theorem kNest2 : kNF.all (fun q => decide (Cond.fieldLinkNest q.1 q.2.1 q.2.2.1 q.2.2.2.1 q.2.2.2.2 "Shortring" ∈ lw_tbl)) = true := by decide +kernel
theorem kStr {b : Nat} {s : State} (h : ∀ w ∈ lw_tbl, w.before #[Value.ref b] s = true) (hg : (Jvm.Cond.and given_1 narrow_1).before #[Value.ref b] s = true) (m1 : kSL.all (fun q => decide (Cond.stringRef RX6 q.1 q.2 ∈ lw_tbl)) = true) (m2 : kSL.all (fun q => decide (Cond.exactly (Term.string RX6 q.1) "java/lang/String" ∈ flatC (Jvm.Cond.and given_1 narrow_1))) = true) :
    ∀ (i : Nat) (q : Nat × String), kSL[i]? = some q → ∃ sa : Nat, vk_R RX6 q.1 q.2 sa s := fun i q hq => by
  have h1 := h _ (of_decide_eq_true (List.all_eq_true.mp m1 q (List.mem_of_getElem? hq)))
  have h2 := flat_of_before _ hg _ (of_decide_eq_true (List.all_eq_true.mp m2 q (List.mem_of_getElem? hq)))
  obtain ⟨a, _, _, _, h3, _⟩ := Cond.exactly_spec h2
  exact ⟨a, vk_R.of h1 h3⟩
set_option maxRecDepth 20000 in
theorem kStr1 : kSL.all (fun q => decide (Cond.stringRef RX6 q.1 q.2 ∈ lw_tbl)) = true := by decide +kernel
set_option maxRecDepth 20000 in
theorem kStr2 : kSL.all (fun q => decide (Cond.exactly (Term.string RX6 q.1) "java/lang/String" ∈ flatC (Jvm.Cond.and given_1 narrow_1))) = true := by decide +kernel
set_option maxRecDepth 20000 in
theorem inX0 : ∀ w ∈ wsX00, w ∈ lw_tbl := by decide +kernel
set_option maxRecDepth 20000 in
theorem inX1 : ∀ w ∈ wsX10, w ∈ lw_tbl := by decide +kernel
set_option maxRecDepth 20000 in
theorem inX2 : ∀ w ∈ wsX20, w ∈ lw_tbl := by decide +kernel
set_option maxRecDepth 20000 in
theorem inX3 : ∀ w ∈ wsX30, w ∈ lw_tbl := by decide +kernel
set_option maxRecDepth 20000 in
theorem inX4 : ∀ w ∈ wsX40, w ∈ lw_tbl := by decide +kernel
set_option maxRecDepth 20000 in
theorem inX6 : ∀ w ∈ wsX60, w ∈ lw_tbl := by decide +kernel
set_option maxHeartbeats 8000000 in
set_option maxRecDepth 100000 in
theorem kTables {s : State} {b : Nat} (h : ∀ w ∈ lw_tbl, w.before #[Value.ref b] s = true) (hts : ∀ w ∈ wsL_law, w.before #[Value.ref b] s = true) (hg : (Jvm.Cond.and given_1 narrow_1).before #[Value.ref b] s = true) : ∃ (dC : Nat → ClassId) (dI : Nat → Nat → Nat) (cI cN : ClassId), va_K (dC, dI) kCl (kT cI cN) s ∧ s.vm.findClass "[I" = some cI := by
  obtain ⟨c0, i0, hk0⟩ := u_known (C := RX0) (T := TX0) (N := 11) (n := 11) h inX0 (hts (.instantiable RX0 11) (by decide +kernel))
  obtain ⟨c1, i1, hk1⟩ := u_known (C := RX1) (T := TX1) (N := 2) (n := 2) h inX1 (hts (.instantiable RX1 2) (by decide +kernel))
  obtain ⟨c2, i2, hk2⟩ := u_known (C := RX2) (T := TX2) (N := 4) (n := 4) h inX2 (hts (.instantiable RX2 4) (by decide +kernel))
  obtain ⟨c3, i3, hk3⟩ := u_known (C := RX3) (T := TX3) (N := 2) (n := 2) h inX3 (hts (.instantiable RX3 2) (by decide +kernel))
  obtain ⟨c4, i4, hk4⟩ := u_known (C := RX4) (T := TX4) (N := 1) (n := 1) h inX4 (hts (.instantiable RX4 1) (by decide +kernel))
  obtain ⟨c5, i5, hk5⟩ := u_known (C := RX6) (T := TX6) (N := 10) (n := 10) h inX6 (hts (.instantiable RX6 10) (by decide +kernel))
  obtain ⟨cI, kI, comp, f1, f2, f3⟩ := Cond.arrayClass_spec (type := .int) (hts (.arrayClass .int) (by decide +kernel))
  obtain ⟨cp2, cN, kA, g1, _, g2, g3, g4⟩ := Cond.arrayOver_spec (n := "Shortring$Net") (h (.arrayOver (.object "Shortring$Net")) (by decide +kernel))
  refine ⟨fun k => if k = 0 then c0 else if k = 1 then c1 else if k = 2 then c2 else if k = 3 then c3 else if k = 4 then c4 else c5, fun k => if k = 0 then i0 else if k = 1 then i1 else if k = 2 then i2 else if k = 3 then i3 else if k = 4 then i4 else i5, cI, cN, ⟨fun k q hq => ?_, fun k q hq => ?_⟩, f1⟩
  · match k, hq with
    | 0, hq => cases hq; exact hk0
    | 1, hq => cases hq; exact hk1
    | 2, hq => cases hq; exact hk2
    | 3, hq => cases hq; exact hk3
    | 4, hq => cases hq; exact hk4
    | 5, hq => cases hq; exact hk5
    | k + 6, hq => simp [kCl] at hq
  · match k, hq with
    | 0, hq => cases hq; exact ⟨fun N z => ⟨(fun k h => by cases h), kI, f2, comp, f3⟩, f1⟩
    | 1, hq => cases hq; exact ⟨fun N z => ⟨(fun k h => by cases h), kA, g2, cp2, g3⟩, kA, cp2, g2, g3, g1, g4⟩
    | k + 2, hq => simp [kT] at hq
theorem kExc {s : State} {b : Nat} (h : ∀ w ∈ lw_tbl, w.before #[Value.ref b] s = true) (hg : (Jvm.Cond.and given_1 narrow_1).before #[Value.ref b] s = true) : kE (fun q => s.heap.size ≤ q) s s.heap ∧ kNc s := by
  have fl := flat_of_before _ hg
  have cast : ∀ k : Nat, va_Nw (.castable (kCls k) (kCls k)) s := fun k => by
    rcases kCls_or k with e | e | e <;> rw [e]
    · exact va_Nw.of rfl (h (.castable "java/lang/IllegalArgumentException" "java/lang/IllegalArgumentException") (by decide +kernel))
    · exact va_Nw.of rfl (h (.castable "java/lang/IndexOutOfBoundsException" "java/lang/IndexOutOfBoundsException") (by decide +kernel))
    · exact va_Nw.of rfl (h (.castable "java/lang/IllegalStateException" "java/lang/IllegalStateException") (by decide +kernel))
  refine ⟨⟨cast, ⟨va_Nw.of rfl (h _ (show Cond.declares (Bundle.initS "java/lang/RuntimeException") ∈ lw_tbl by decide +kernel)), va_Nw.of rfl (h _ (show Cond.declares (Bundle.initS "java/lang/Exception") ∈ lw_tbl by decide +kernel)), va_Nw.of rfl (h _ (show Cond.declares (Bundle.initS Bundle.tN) ∈ lw_tbl by decide +kernel))⟩, kStr h hg kStr1 kStr2, ?_, ?_⟩, ?_, ?_, ?_⟩
  · exact vx_Zqof (h (.laysStatic Bundle.tN "UNASSIGNED_STACK" Bundle.steD) (by decide +kernel)) (h (.initialized Bundle.tN) (by decide +kernel)) (fl (.isRef (.static Bundle.tN "UNASSIGNED_STACK" Bundle.steD)) (by decide +kernel)) (fun a h1 h2 => absurd h1 (Nat.not_lt.mpr h2))
  · exact vx_Zqof (h (.laysStatic Bundle.tN "SUPPRESSED_SENTINEL" Bundle.listD) (by decide +kernel)) (h (.initialized Bundle.tN) (by decide +kernel)) (fl (.isRef (.static Bundle.tN "SUPPRESSED_SENTINEL" Bundle.listD)) (by decide +kernel)) (fun a h1 h2 => absurd h1 (Nat.not_lt.mpr h2))
  · exact va_Nc.of (fl (.not (.castable "java/lang/IllegalArgumentException" "java/lang/IndexOutOfBoundsException")) (by decide +kernel))
  · exact va_Nc.of (fl (.not (.castable "java/lang/IllegalStateException" "java/lang/IndexOutOfBoundsException")) (by decide +kernel))
  · exact va_Nc.of (fl (.not (.castable "java/lang/IllegalStateException" "java/lang/IllegalArgumentException")) (by decide +kernel))
set_option maxHeartbeats 8000000 in
set_option maxRecDepth 100000 in
theorem whole_start {p : Program} {e : Env} {s : State} {m : MethodId} {below : List Frame} {meth : Method} {c : Code} (l : Launch) (hflags : l.flags = flags0) {b L : Nat} {xs : Nat → Int32} (hL : L ≤ 260) (C0 : lw_At p s m meth c b L xs) : W p l e room_1 s m #[Value.ref b] below meth c s.heap [] 0 0 (lw_Z below #[Value.ref b] s) (entryFrame m ([Value.ref b] : List Value).toArray 14) := by
  obtain ⟨hx, hb, hr0, hml, hown, hts0, hX, hbl, hlocks, hgv⟩ := C0
  have hts : ∀ w ∈ wsL_law, w.before #[Value.ref b] s = true := fun w h => hts0 w (wsL_law_in w h)
  have hl9 : l.stackTraces = false := by
    unfold Launch.stackTraces
    rw [hflags]
    decide
  obtain ⟨dC, dI, cI, cN, hK, hfI⟩ := kTables hts0 hts hgv
  obtain ⟨hE, hNc⟩ := kExc hts0 hgv
  have hN : kN s := kNest hts0 kNest1 kNest2
  have hAO : va_AO RX3 s := va_AO.of (hts0 (.arrayOver (.object "Shortring$Net")) (by decide +kernel))
  have hP : va_P (dC, dI) kCl [] s.heap := fun k q h => by simp at h
  have hD : va_D (fun q : Nat => s.heap.size ≤ q) [] := ⟨fun i j p q h => by simp at h, fun k q h => by simp at h⟩
  have hS : va_S (fun q : Nat => s.heap.size ≤ q) s.heap s.heap [] := va_S.rf
  have hA : ∀ q : Nat, s.heap.size ≤ q → (fun q : Nat => s.heap.size ≤ q) q := fun _ h => h
  have hl := lv_entry ([.ref b]) (n := 14) (Nat.le_of_ble_eq_true rfl)
  rw [lg_entry_eq]
  generalize (lg_sl ([.ref b]) ++ List.replicate (14 - (lg_sl ([.ref b])).length) Slot.unset).toArray = ls at hl ⊢
  have hl : lv_has ls 14 [(0, .ref b)] := hl
  refine va_new (ci := 5) (fs := [.null, .null, .null, .null, .null, .null, .null, .null, .int 0, .int 0]) (C := RX6) (T := TX6) (N := 10) hx hb hts0 inX6 tyX6 tyX6_ok hown (hts (.classLink RL 9 RX6) (by decide +kernel)) (hts (.instantiable RX6 10) (by decide +kernel)) (hts (.initialized RX6) (by decide +kernel)) hK hP hD hS hA rfl (fun j hj => by rcases (show j = 0 ∨ j = 1 ∨ j = 2 ∨ j = 3 ∨ j = 4 ∨ j = 5 ∨ j = 6 ∨ j = 7 ∨ j = 8 ∨ j = 9 by omega) with rfl | rfl | rfl | rfl | rfl | rfl | rfl | rfl | rfl | rfl <;> rfl) (Nat.le_of_ble_eq_true rfl) (Nat.le_of_ble_eq_true rfl) dL_law_0 (fun q0 H hP hD hS => ?_)
  have hP : va_P (dC, dI) kCl [(q0, .inr (5, [.null, .null, .null, .null, .null, .null, .null, .null, .int 0, .int 0]))] H := hP
  have hD : va_D (fun q : Nat => s.heap.size ≤ q) [(q0, .inr (5, [.null, .null, .null, .null, .null, .null, .null, .null, .int 0, .int 0]))] := hD
  refine lv_dup hx hb dL_law_3 rfl ?_
  refine kCallN (wr := []) (va_runI (As := []) (rest := [.ref q0]) ⟨hx, hb, hml, hown, hts⟩ (k_X6_init l dC dI cI cN q0 _) (cwI 0 hts gL_law_X6_init rfl rfl rfl (hts (.initialized RX6) (by decide +kernel)) (hts (.methodLink RL 11 yX6_init) (by decide +kernel)) (hts (.instanceMethod yX6_init) (by decide +kernel)) rfl (by decide +kernel) ⟨Nat.le_of_ble_eq_true rfl, Nat.le_of_ble_eq_true rfl⟩) ⟨fun a U g mk q => ⟨q.1, (kU_blind (As := [.ref q0]) a U g mk ⟨q.1, q.2.1⟩).2, va_AO.moved (u := U) (U := U.calling g mk a) (Vm.Alike.refl U.vm) q.2.2⟩, fun U hU hW => ⟨rfl, ⟨by rw [hU], by rw [hU]; exact hP, va_K.moved hW.alike hK, hD.weaken (fun _ _ _ _ => trivial), kN_warm hW hN⟩, va_AO.moved hW.alike hAO⟩⟩ rfl rfl hl.1 rfl (lv_room (Nat.le_of_ble_eq_true rfl)) dL_law_4 ⟨Nat.le_of_ble_eq_true rfl, Nat.le_of_ble_eq_true rfl⟩) hP hD hS hA [0] [] rfl rfl rfl (by decide) (fun H locs w0 hw0 hP hD hS => ?_)
  obtain ⟨w_1, w_2, w_3, w_4, w_5, w_6, w_7, w_8, w_9, w_10, w_11, w_12, w_13, w_14, w_15, w_16, w_17, w_18, w_19, w_20, w_21, w_22, rfl⟩ := hw0
  obtain ⟨ad, had⟩ : ∃ ad : Nat → Nat, ad = fun i => ([q0, w_1, w_2, w_6, w_7, w_8, w_9, w_10, w_11, w_12, w_13, w_14, w_15, w_16, w_17, w_18, w_19, w_20, w_21, w_22, w_5, w_3, w_4] : List Nat).getD i 0 := ⟨_, rfl⟩
  have hP : va_P (dC, dI) kCl (kObj cI cN ad 0 0 0 (fun _ => 0) (fun _ => 0) (fun _ => 0) (fun _ => 0) (fun _ => 0) 0 0 0 0 0 0 0 (fun _ => 0) (fun _ => 0) 0 (fun _ => 0) 0 (fun _ => 0) (fun _ => 0) 0 (fun _ => 0) (fun _ => 0) (fun _ => none) 0 (fun _ => 0)) H := hP.sub [0, 1, 2, 6, 7, 8, 9, 10, 11, 12, 13, 14, 15, 16, 17, 18, 19, 20, 21, 22, 5, 3, 4] (by rw [had]; rfl)
  have hD : va_D (fun q : Nat => s.heap.size ≤ q) (kObj cI cN ad 0 0 0 (fun _ => 0) (fun _ => 0) (fun _ => 0) (fun _ => 0) (fun _ => 0) 0 0 0 0 0 0 0 (fun _ => 0) (fun _ => 0) 0 (fun _ => 0) 0 (fun _ => 0) (fun _ => 0) 0 (fun _ => 0) (fun _ => 0) (fun _ => none) 0 (fun _ => 0)) := hD.sub [0, 1, 2, 6, 7, 8, 9, 10, 11, 12, 13, 14, 15, 16, 17, 18, 19, 20, 21, 22, 5, 3, 4] (by decide) (by rw [had]; rfl)
  have hG := kFresh (cI := cI) (cN := cN) (ad := ad) rfl
  have h0 : q0 = ad 0 := by rw [had]; rfl
  generalize (kObj cI cN ad 0 0 0 (fun _ => 0) (fun _ => 0) (fun _ => 0) (fun _ => 0) (fun _ => 0) 0 0 0 0 0 0 0 (fun _ => 0) (fun _ => 0) 0 (fun _ => 0) 0 (fun _ => 0) (fun _ => 0) 0 (fun _ => 0) (fun _ => 0) (fun _ => none) 0 (fun _ => 0)) = w at hP hD hG
  rw [← h0] at hG
  clear had h0
  have hP : va_P (dC, dI) kCl (w ++ []) H := by rw [List.append_nil]; exact hP
  have hD : va_D (fun q : Nat => s.heap.size ≤ q) (w ++ []) := by rw [List.append_nil]; exact hD
  obtain ⟨fs0, hat⟩ := kG_at hG
  refine lv_astore_n (lv' := [(1, .ref q0), (0, .ref b)]) hx hb dL_law_7 rfl hl (by decide) rfl (fun ls hl => ?_)
  refine lv_aload_n hx hb dL_law_8 rfl (lv_at hl 0 rfl) ?_
  refine lv_iconst (v := 3) hx hb dL_law_9 (by decide) ?_
  refine lv_aload_n hx hb dL_law_10 rfl (lv_at hl 1 rfl) ?_
  refine lv_iconst (v := 1) hx hb dL_law_11 (by decide) ?_
  refine kCallA (va_runS (As := [.ref b, .int (nI 1)]) (rest := [.int 3, .ref q0]) ⟨hx, hb, hml, hown, hts⟩ (k_L_cell l b L xs 1 (by omega) (by omega)) (va_cwS 2 hts gL_law_L_cell rfl rfl rfl (by decide +kernel) ⟨Nat.le_of_ble_eq_true rfl, Nat.le_of_ble_eq_true rfl⟩) ⟨fun a U g mk q => ⟨q.1, va_X.moved (u := U) (U := U.calling g mk a) (Vm.Alike.refl U.vm) q.2⟩, fun U hU hW => ⟨rfl, by show va_X b L xs U U.heap; rw [hU]; exact va_X.moved hW.alike (hX.kept (hS.2.1 b hbl (Nat.not_le.mpr hbl)))⟩⟩ rfl rfl hl.1 rfl (lv_room (Nat.le_of_ble_eq_true rfl)) dL_law_12 ⟨Nat.le_of_ble_eq_true rfl, Nat.le_of_ble_eq_true rfl⟩) hP hS (fun x0 H locs hP hS => ?_)
  refine lv_bipush (v := 8) hx hb dL_law_15 (by decide) ?_
  refine kCallB (va_runS (As := [.int x0, .int (nI 8)]) (rest := [.int 3, .ref q0]) ⟨hx, hb, hml, hown, hts⟩ (k_L_below l x0 8 (by decide) (by decide)) (va_cwS 2 hts gL_law_L_below rfl rfl rfl (by decide +kernel) ⟨Nat.le_of_ble_eq_true rfl, Nat.le_of_ble_eq_true rfl⟩) ⟨fun a U g mk q => q, fun U _ _ => ⟨rfl, trivial⟩⟩ rfl rfl hl.1 rfl (lv_room (Nat.le_of_ble_eq_true rfl)) dL_law_17 ⟨Nat.le_of_ble_eq_true rfl, Nat.le_of_ble_eq_true rfl⟩) hP hS (fun j H locs hj hP hS => ?_)
  refine lv_iadd hx hb dL_law_20 ?_
  refine kRen (y := nI (3 + j)) (nI_add 3 j) ?_
  refine kCallJ (va_runV (As := [.int (nI (3 + j))]) (rest := []) ⟨hx, hb, hml, hown, hts⟩ (c_gardenM l hl9 dC dI cI cN hG (3 + j) (by omega) (by omega) _) (cwV 1 hts gL_law_X6_garden rfl rfl rfl (by decide +kernel) ⟨Nat.le_of_ble_eq_true rfl, Nat.le_of_ble_eq_true rfl⟩) (kUE_V hP hK hD hN (kE_kept hE hS.2.1) hat) rfl rfl hl.1 rfl (lv_room (Nat.le_of_ble_eq_true rfl)) dL_law_21 ⟨Nat.le_of_ble_eq_true rfl, Nat.le_of_ble_eq_true rfl⟩) hP hD hS hA (fun r w1 H locs g hP hD hS => ?_)
  obtain ⟨K', f', o', c', l', a', h3, hG1⟩ := g
  refine lv_pop hx hb dL_law_24 rfl ?_
  refine lv_bipush (v := 40) hx hb dL_law_25 (by decide) ?_
  refine kNewAA (n := 40) (N' := 40) hx hb hown (hts (.classLink RL 26 "[I") (by decide +kernel)) (hts0 (.arrayOver (.array .int)) (by decide +kernel)) hP hD hS hA (by decide) (by decide) (Nat.le_of_ble_eq_true rfl) (Nat.le_of_ble_eq_true rfl) (Nat.le_of_ble_eq_true rfl) dL_law_27 (fun pr cP H hPA hP hD hS => ?_)
  rw [List.append_assoc] at hP hD
  refine lv_astore_n (lv' := [(2, .ref pr), (1, .ref q0), (0, .ref b)]) hx hb dL_law_30 rfl hl (by decide) rfl (fun ls hl => ?_)
  refine lv_iconst (v := 0) hx hb dL_law_31 (by decide) ?_
  refine lv_istore_n (lv' := [(3, .int 0), (2, .ref pr), (1, .ref q0), (0, .ref b)]) hx hb dL_law_32 rfl hl (by decide) rfl (fun ls hl => ?_)
  refine lv_iconst (v := 0) hx hb dL_law_33 (by decide) ?_
  refine lv_istore (lv' := [(4, .int 0), (3, .int 0), (2, .ref pr), (1, .ref q0), (0, .ref b)]) hx hb dL_law_34 hl (by decide) rfl (fun ls hl => ?_)
  have hC : kLX p l s m c b L xs dC dI cI cN cP := ⟨hx, hb, hml, hown, hts, hX, hbl, hL, hK, hN, hE, hNc, hl9, hPA, hfI⟩
  refine law_loop hC (fun H locs ls cells slots hS h1 h2 => ?_) 40 0 0 (fun _ => none) [] H locs ls _ _ rfl (Nat.le_refl _) hG1 h3 ⟨rfl, fun j r h => by cases h⟩ hP hD hS (by decide) (by decide) (lv_sub hl [0, 4, 3, 2, 1] rfl)
  refine lv_iconst (v := 1) hx hb dL_law_390 (by decide) ?_
  refine va_forget (fun q hq => hS.2.2 q hq) ?_
  refine W.widen (k := 600130) (n := 7301080) (by omega) (by omega) ?_
  exact lw_ret hx hb hr0 hlocks dL_law_391

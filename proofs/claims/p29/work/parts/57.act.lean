/-! the law's act (printed by wip/gen/law_act.py) -/
theorem kPow {m : Nat} (h : m < 21) : 2 ^ m < 2 ^ 31 := Nat.pow_lt_pow_right (by decide) (by omega)
theorem kMin {K : Nat} {f : Nat → Int32} (hN : NetOK K f) : ∃ m, m < 21 ∧ (if P_edgesInAll K f < (20 : Int32) then P_edgesInAll K f else 20) = nI m := by
  obtain ⟨e1, e2⟩ := edges_spec hN.1
  rw [e1, kTabMin _ (by omega)]
  exact ⟨_, by split <;> omega, rfl⟩
theorem kAct2 {cI cN : ClassId} {s0 K : Nat} {f f' : Nat → Int32} {cnt len a : Int32} {w' : va_W} (h3 : 3 ≤ K) (hG : kG cI cN s0 K f' 1 cnt len a w') (h : ∃ c L, cnt = nI c ∧ len = nI L ∧ 2 ≤ c ∧ c ≤ 5 ∧ 3 ≤ L ∧ L ≤ 8 ∧ ∀ G, ¬ Valid K c L G) : kAct cI cN s0 K f 2 w' :=
  ⟨K, f', 1, cnt, len, a, h3, hG, fun _ => ⟨rfl, rfl, h⟩, fun q => absurd q (by decide)⟩
abbrev rm_L_act : Room := { frames := 23, cells := 2, slots := 18, locals := 620 }
set_option maxHeartbeats 8000000 in
set_option maxRecDepth 100000 in
theorem k_L_act (l : Launch) (hl9 : l.stackTraces = false) (dC : Nat → ClassId) (dI : Nat → Nat → Nat) (cI cN : ClassId) {s0 K : Nat} {f : Nat → Int32} {isOn cnt len sta : Int32} {w : va_W} (hG : kG cI cN s0 K f isOn cnt len sta w) (h3 : 3 ≤ K) (x what : Int32) (sz : Nat) : vx_Met l yL_act wsL_act rm_L_act (va_Pc [.ref s0, .int x, .int what, .int (nI K)] (kUA dC dI cI cN w sz)) (kJ dC dI (kAct cI cN s0 K f) w sz) kNoX 2 18 (va_A w sz) := by
  refine vx_ofWH (cc := cL_act) (maxL := 5) (ret := (some .int)) (by decide) rfl ?_
  intro p e s m args below meth c s₁ B hml hv
  obtain ⟨rfl, ⟨hsz, hP, hK, hD0, hN⟩, hE, hNc⟩ := hv
  refine vx_ret ?_
  have hx := B.exec
  have hb := B.bytes
  have hr0 := B.returns
  have hts := atoms_spec (ws := wsL_act) B.pre
  have hown : s.vm.findClass RL = some m.cls := findClass_of_methodNamed B.named
  have hlocks := B.notSynchronized
  have hxt := vx_table (x := yL_act) B (hts _ List.mem_cons_self)
  subst hsz
  have hN0 := kG_net hG
  have hD := hD0.self (sz := s.heap.size)
  have hA : ∀ q : Nat, s.heap.size ≤ q → va_A w s.heap.size q := fun q h => Or.inr h
  have hS : va_S (va_A w s.heap.size) s.heap s.heap [] := va_S.rf
  have hP : va_P (dC, dI) kCl (w ++ []) s.heap := by rw [List.append_nil]; exact hP
  have hD : va_D (va_A w s.heap.size) (w ++ []) := by rw [List.append_nil]; exact hD
  have hD0 := hD
  obtain ⟨fs0, hat⟩ := kG_at hG
  have hl := lv_entry ([.ref s0, .int x, .int what, .int (nI K)]) (n := 5) (Nat.le_of_ble_eq_true rfl)
  rw [lg_entry_eq]
  generalize (lg_sl ([.ref s0, .int x, .int what, .int (nI K)]) ++ List.replicate (5 - (lg_sl ([.ref s0, .int x, .int what, .int (nI K)])).length) Slot.unset).toArray = ls at hl ⊢
  have hl : lv_has ls 5 [(0, .ref s0), (1, .int x), (2, .int what), (3, .int (nI K))] := hl
  have hx327 : ∀ (H : Heap) (locs : List Loc) (ls : Array Slot) (q9 cells slots : Nat), cells ≤ 2 → slots ≤ 18 → lv_has ls 5 [(0, .ref s0), (1, .int x), (2, .int what), (3, .int (nI K))] → va_P (dC, dI) kCl (w ++ []) H → va_S (va_A w s.heap.size) s.heap H locs → W p l e (headSpec wsL_act rm_L_act).room s m (([.ref s0, .int x, .int what, .int (nI K)] : List Value).toArray) below meth c H locs cells slots (MQ below (kJ dC dI (kAct cI cN s0 K f) w s.heap.size) (([.ref s0, .int x, .int what, .int (nI K)] : List Value).toArray) s 2 18 (va_A w s.heap.size)) (F0 m 327 ls [.ref q9]) := by
    intro H locs ls q9 cells slots h1 h2 hl hP hS
    refine lv_astore (lv' := [(4, .ref q9), (0, .ref s0), (1, .int x), (2, .int what), (3, .int (nI K))]) hx hb dL_act_327 hl (by decide) rfl (fun ls hl => ?_)
    refine lv_iconst (v := 0) hx hb dL_act_329 (by decide) ?_
    refine W.widen (k := 2) (n := 18) h1 h2 ?_
    exact W.iret (v := 0) hx hb hr0 (fun t ht hW => kJ_end (kAct0 ⟨K, f, isOn, cnt, len, sta, h3, hG⟩) hP hD0 hS ht) hS.2.2 dL_act_330
  have hx331 : ∀ (H : Heap) (locs : List Loc) (ls : Array Slot) (q9 cells slots : Nat), cells ≤ 2 → slots ≤ 18 → lv_has ls 5 [(0, .ref s0), (1, .int x), (2, .int what), (3, .int (nI K))] → va_P (dC, dI) kCl (w ++ []) H → va_S (va_A w s.heap.size) s.heap H locs → W p l e (headSpec wsL_act rm_L_act).room s m (([.ref s0, .int x, .int what, .int (nI K)] : List Value).toArray) below meth c H locs cells slots (MQ below (kJ dC dI (kAct cI cN s0 K f) w s.heap.size) (([.ref s0, .int x, .int what, .int (nI K)] : List Value).toArray) s 2 18 (va_A w s.heap.size)) (F0 m 331 ls [.ref q9]) := by
    intro H locs ls q9 cells slots h1 h2 hl hP hS
    refine lv_astore (lv' := [(4, .ref q9), (0, .ref s0), (1, .int x), (2, .int what), (3, .int (nI K))]) hx hb dL_act_331 hl (by decide) rfl (fun ls hl => ?_)
    refine lv_iconst (v := 0) hx hb dL_act_333 (by decide) ?_
    refine W.widen (k := 2) (n := 18) h1 h2 ?_
    exact W.iret (v := 0) hx hb hr0 (fun t ht hW => kJ_end (kAct0 ⟨K, f, isOn, cnt, len, sta, h3, hG⟩) hP hD0 hS ht) hS.2.2 dL_act_334
  have hx335 : ∀ (H : Heap) (locs : List Loc) (ls : Array Slot) (q9 cells slots : Nat), cells ≤ 2 → slots ≤ 18 → lv_has ls 5 [(0, .ref s0), (1, .int x), (2, .int what), (3, .int (nI K))] → va_P (dC, dI) kCl (w ++ []) H → va_S (va_A w s.heap.size) s.heap H locs → W p l e (headSpec wsL_act rm_L_act).room s m (([.ref s0, .int x, .int what, .int (nI K)] : List Value).toArray) below meth c H locs cells slots (MQ below (kJ dC dI (kAct cI cN s0 K f) w s.heap.size) (([.ref s0, .int x, .int what, .int (nI K)] : List Value).toArray) s 2 18 (va_A w s.heap.size)) (F0 m 335 ls [.ref q9]) := by
    intro H locs ls q9 cells slots h1 h2 hl hP hS
    refine lv_astore (lv' := [(4, .ref q9), (0, .ref s0), (1, .int x), (2, .int what), (3, .int (nI K))]) hx hb dL_act_335 hl (by decide) rfl (fun ls hl => ?_)
    refine lv_iconst (v := 0) hx hb dL_act_337 (by decide) ?_
    refine W.widen (k := 2) (n := 18) h1 h2 ?_
    exact W.iret (v := 0) hx hb hr0 (fun t ht hW => kJ_end (kAct0 ⟨K, f, isOn, cnt, len, sta, h3, hG⟩) hP hD0 hS ht) hS.2.2 dL_act_338
  have b60 : W p l e (headSpec wsL_act rm_L_act).room s m (([.ref s0, .int x, .int what, .int (nI K)] : List Value).toArray) below meth c s.heap [] 0 0 (MQ below (kJ dC dI (kAct cI cN s0 K f) w s.heap.size) (([.ref s0, .int x, .int what, .int (nI K)] : List Value).toArray) s 2 18 (va_A w s.heap.size)) (F0 m 60 ls []) := by
    refine lv_aload_n hx hb dL_act_60 rfl (lv_at hl 0 rfl) ?_
    refine lv_iconst (v := 3) hx hb dL_act_61 (by decide) ?_
    refine lv_iload_n hx hb dL_act_62 rfl (lv_at hl 1 rfl) ?_
    refine lv_iconst (v := 3) hx hb dL_act_63 (by decide) ?_
    refine lv_ishr hx hb dL_act_64 ?_
    refine lv_topi (fun y1 _ => ?_)
    refine lv_bipush (v := 7) hx hb dL_act_65 (by decide) ?_
    refine kCallB (va_runS (As := [.int y1, .int (nI 7)]) (rest := [.int 3, .ref s0]) ⟨hx, hb, hml, hown, hts⟩ (k_L_below l y1 7 (by decide) (by decide)) (va_cwS 2 hts gL_act_L_below rfl rfl rfl (by decide +kernel) ⟨Nat.le_of_ble_eq_true rfl, Nat.le_of_ble_eq_true rfl⟩) ⟨fun a U g mk q => q, fun U _ _ => ⟨rfl, trivial⟩⟩ rfl rfl hl.1 rfl (lv_room (Nat.le_of_ble_eq_true rfl)) dL_act_67 ⟨Nat.zero_le _, Nat.zero_le _⟩) hP hS (fun j2 H locs hj2 hP hS => ?_)
    refine lv_iadd hx hb dL_act_70 ?_
    refine kRen (y := nI (3 + j2)) (nI_add 3 j2) ?_
    refine kCallJX (vx_runV (As := [.int (nI (3 + j2))]) (rest := []) ⟨hx, hb, hml, hown, hts⟩ (c_garden l hl9 dC dI cI cN hG (3 + j2) (by omega) (by omega) _) (cwV 1 hts gL_act_X6_garden rfl rfl rfl (by decide +kernel) ⟨Nat.le_of_ble_eq_true rfl, Nat.le_of_ble_eq_true rfl⟩) (kUE_V hP hK hD hN (kE_kept hE hS.2.1) hat) rfl rfl hl.1 rfl (lv_room (Nat.le_of_ble_eq_true rfl)) dL_act_71 ⟨Nat.le_of_ble_eq_true rfl, Nat.le_of_ble_eq_true rfl⟩) hP hD hS hA (fun k ce q9 H locs hP hS hc1 hc2 hc3 => ?_) (fun r3 w1 H locs g hP hD hS => ?_)
    · rcases kCls_or k with hk | hk | hk
      · rw [hk] at hc3
        exact vx_catch hown (tableOf [(0, 76, 327, 87), (77, 110, 327, 87), (111, 136, 327, 87), (137, 162, 327, 87), (163, 198, 327, 87), (199, 230, 327, 87), (231, 254, 327, 87), (255, 296, 327, 87), (297, 326, 327, 87)]) ⟨0, 76, 331, 89⟩ (tableOf [(77, 110, 331, 89), (111, 136, 331, 89), (137, 162, 331, 89), (163, 198, 331, 89), (199, 230, 331, 89), (231, 254, 331, 89), (255, 296, 331, 89), (297, 326, 331, 89), (0, 76, 335, 91), (77, 110, 335, 91), (111, 136, 335, 91), (137, 162, 335, 91), (163, 198, 335, 91), (199, 230, 335, 91), (231, 254, 335, 91), (255, 296, 335, 91), (297, 326, 335, 91)]) (hxt.trans rfl) (kPass1 (t1 := 87) (by decide) rfl (hts (.classLink RL 87 "java/lang/IndexOutOfBoundsException") (by decide +kernel)) hNc.1) rfl (by decide) (hts (.classLink RL 89 "java/lang/IllegalArgumentException") (by decide +kernel)) (va_Nw.use rfl (hE.1 1)) hc1 hc2 hc3 (hx331 _ _ _ _ _ _ (Nat.le_of_ble_eq_true rfl) (Nat.le_of_ble_eq_true rfl) (lv_sub hl [0, 1, 2, 3] rfl) hP hS)
      · rw [hk] at hc3
        exact vx_catch hown (tableOf []) ⟨0, 76, 327, 87⟩ (tableOf [(77, 110, 327, 87), (111, 136, 327, 87), (137, 162, 327, 87), (163, 198, 327, 87), (199, 230, 327, 87), (231, 254, 327, 87), (255, 296, 327, 87), (297, 326, 327, 87), (0, 76, 331, 89), (77, 110, 331, 89), (111, 136, 331, 89), (137, 162, 331, 89), (163, 198, 331, 89), (199, 230, 331, 89), (231, 254, 331, 89), (255, 296, 331, 89), (297, 326, 331, 89), (0, 76, 335, 91), (77, 110, 335, 91), (111, 136, 335, 91), (137, 162, 335, 91), (163, 198, 335, 91), (199, 230, 335, 91), (231, 254, 335, 91), (255, 296, 335, 91), (297, 326, 335, 91)]) (hxt.trans rfl) (kPass0 rfl) rfl (by decide) (hts (.classLink RL 87 "java/lang/IndexOutOfBoundsException") (by decide +kernel)) (va_Nw.use rfl (hE.1 2)) hc1 hc2 hc3 (hx327 _ _ _ _ _ _ (Nat.le_of_ble_eq_true rfl) (Nat.le_of_ble_eq_true rfl) (lv_sub hl [0, 1, 2, 3] rfl) hP hS)
      · rw [hk] at hc3
        exact vx_catch hown (tableOf [(0, 76, 327, 87), (77, 110, 327, 87), (111, 136, 327, 87), (137, 162, 327, 87), (163, 198, 327, 87), (199, 230, 327, 87), (231, 254, 327, 87), (255, 296, 327, 87), (297, 326, 327, 87), (0, 76, 331, 89), (77, 110, 331, 89), (111, 136, 331, 89), (137, 162, 331, 89), (163, 198, 331, 89), (199, 230, 331, 89), (231, 254, 331, 89), (255, 296, 331, 89), (297, 326, 331, 89)]) ⟨0, 76, 335, 91⟩ (tableOf [(77, 110, 335, 91), (111, 136, 335, 91), (137, 162, 335, 91), (163, 198, 335, 91), (199, 230, 335, 91), (231, 254, 335, 91), (255, 296, 335, 91), (297, 326, 335, 91)]) (hxt.trans rfl) (kPass2 (t1 := 87) (t2 := 89) (by decide) (by decide) rfl (hts (.classLink RL 87 "java/lang/IndexOutOfBoundsException") (by decide +kernel)) hNc.2.1 (hts (.classLink RL 89 "java/lang/IllegalArgumentException") (by decide +kernel)) hNc.2.2) rfl (by decide) (hts (.classLink RL 91 "java/lang/IllegalStateException") (by decide +kernel)) (va_Nw.use rfl (hE.1 3)) hc1 hc2 hc3 (hx335 _ _ _ _ _ _ (Nat.le_of_ble_eq_true rfl) (Nat.le_of_ble_eq_true rfl) (lv_sub hl [0, 1, 2, 3] rfl) hP hS)
    · skip
      refine lv_pop hx hb dL_act_74 rfl ?_
      refine lv_iconst (v := 0) hx hb dL_act_75 (by decide) ?_
      refine W.widen (k := 2) (n := 18) (Nat.le_of_ble_eq_true rfl) (Nat.le_of_ble_eq_true rfl) ?_
      exact W.iret (v := 0) hx hb hr0 (fun t ht hW => kJ_end (kAct0 g) hP hD hS ht) hS.2.2 dL_act_76
  have b77 : W p l e (headSpec wsL_act rm_L_act).room s m (([.ref s0, .int x, .int what, .int (nI K)] : List Value).toArray) below meth c s.heap [] 0 0 (MQ below (kJ dC dI (kAct cI cN s0 K f) w s.heap.size) (([.ref s0, .int x, .int what, .int (nI K)] : List Value).toArray) s 2 18 (va_A w s.heap.size)) (F0 m 77 ls []) := by
    refine lv_aload_n hx hb dL_act_77 rfl (lv_at hl 0 rfl) ?_
    refine lv_iload_n hx hb dL_act_78 rfl (lv_at hl 1 rfl) ?_
    refine lv_iload_n hx hb dL_act_79 rfl (lv_at hl 3 rfl) ?_
    refine kCallB (va_runS (As := [.int x, .int (nI K)]) (rest := [.ref s0]) ⟨hx, hb, hml, hown, hts⟩ (k_L_below l x K (by omega) (by have := hN0.1.1; omega)) (va_cwS 2 hts gL_act_L_below rfl rfl rfl (by decide +kernel) ⟨Nat.le_of_ble_eq_true rfl, Nat.le_of_ble_eq_true rfl⟩) ⟨fun a U g mk q => q, fun U _ _ => ⟨rfl, trivial⟩⟩ rfl rfl hl.1 rfl (lv_room (Nat.le_of_ble_eq_true rfl)) dL_act_80 ⟨Nat.zero_le _, Nat.zero_le _⟩) hP hS (fun j1 H locs hj1 hP hS => ?_)
    refine lv_iload_n hx hb dL_act_83 rfl (lv_at hl 1 rfl) ?_
    refine lv_iconst (v := 3) hx hb dL_act_84 (by decide) ?_
    refine lv_ishr hx hb dL_act_85 ?_
    refine lv_topi (fun y2 _ => ?_)
    refine lv_iload_n hx hb dL_act_86 rfl (lv_at hl 3 rfl) ?_
    refine kCallB (va_runS (As := [.int y2, .int (nI K)]) (rest := [.int (nI j1), .ref s0]) ⟨hx, hb, hml, hown, hts⟩ (k_L_below l y2 K (by omega) (by have := hN0.1.1; omega)) (va_cwS 2 hts gL_act_L_below rfl rfl rfl (by decide +kernel) ⟨Nat.le_of_ble_eq_true rfl, Nat.le_of_ble_eq_true rfl⟩) ⟨fun a U g mk q => q, fun U _ _ => ⟨rfl, trivial⟩⟩ rfl rfl hl.1 rfl (lv_room (Nat.le_of_ble_eq_true rfl)) dL_act_87 ⟨Nat.zero_le _, Nat.zero_le _⟩) hP hS (fun j3 H locs hj3 hP hS => ?_)
    refine lv_iload_n hx hb dL_act_90 rfl (lv_at hl 1 rfl) ?_
    refine lv_iconst (v := 5) hx hb dL_act_91 (by decide) ?_
    refine lv_ishr hx hb dL_act_92 ?_
    refine lv_topi (fun y4 _ => ?_)
    refine lv_iconst (v := 4) hx hb dL_act_93 (by decide) ?_
    refine kCallB (va_runS (As := [.int y4, .int (nI 4)]) (rest := [.int (nI j3), .int (nI j1), .ref s0]) ⟨hx, hb, hml, hown, hts⟩ (k_L_below l y4 4 (by decide) (by decide)) (va_cwS 2 hts gL_act_L_below rfl rfl rfl (by decide +kernel) ⟨Nat.le_of_ble_eq_true rfl, Nat.le_of_ble_eq_true rfl⟩) ⟨fun a U g mk q => q, fun U _ _ => ⟨rfl, trivial⟩⟩ rfl rfl hl.1 rfl (lv_room (Nat.le_of_ble_eq_true rfl)) dL_act_94 ⟨Nat.zero_le _, Nat.zero_le _⟩) hP hS (fun j5 H locs hj5 hP hS => ?_)
    refine lv_if_le (tgt := 104) hx hb dL_act_97 (by decide) (fun c6 => ?_) (fun c6 => ?_)
    · skip
      refine lv_iconst (v := 0) hx hb dL_act_104 (by decide) ?_
      refine kCallJX (vx_runV (As := [.int (nI j1), .int (nI j3), .int 0]) (rest := []) ⟨hx, hb, hml, hown, hts⟩ (c_edge l hl9 dC dI cI cN hG h3 (nI j1) (nI j3) 0 _) (cwV 3 hts gL_act_X6_edge rfl rfl rfl (by decide +kernel) ⟨Nat.le_of_ble_eq_true rfl, Nat.le_of_ble_eq_true rfl⟩) (kUE_V hP hK hD hN (kE_kept hE hS.2.1) hat) rfl rfl hl.1 rfl (lv_room (Nat.le_of_ble_eq_true rfl)) dL_act_105 ⟨Nat.le_of_ble_eq_true rfl, Nat.le_of_ble_eq_true rfl⟩) hP hD hS hA (fun k ce q9 H locs hP hS hc1 hc2 hc3 => ?_) (fun r7 w1 H locs g hP hD hS => ?_)
      · rcases kCls_or k with hk | hk | hk
        · rw [hk] at hc3
          exact vx_catch hown (tableOf [(0, 76, 327, 87), (77, 110, 327, 87), (111, 136, 327, 87), (137, 162, 327, 87), (163, 198, 327, 87), (199, 230, 327, 87), (231, 254, 327, 87), (255, 296, 327, 87), (297, 326, 327, 87), (0, 76, 331, 89)]) ⟨77, 110, 331, 89⟩ (tableOf [(111, 136, 331, 89), (137, 162, 331, 89), (163, 198, 331, 89), (199, 230, 331, 89), (231, 254, 331, 89), (255, 296, 331, 89), (297, 326, 331, 89), (0, 76, 335, 91), (77, 110, 335, 91), (111, 136, 335, 91), (137, 162, 335, 91), (163, 198, 335, 91), (199, 230, 335, 91), (231, 254, 335, 91), (255, 296, 335, 91), (297, 326, 335, 91)]) (hxt.trans rfl) (kPass1 (t1 := 87) (by decide) rfl (hts (.classLink RL 87 "java/lang/IndexOutOfBoundsException") (by decide +kernel)) hNc.1) rfl (by decide) (hts (.classLink RL 89 "java/lang/IllegalArgumentException") (by decide +kernel)) (va_Nw.use rfl (hE.1 1)) hc1 hc2 hc3 (hx331 _ _ _ _ _ _ (Nat.le_of_ble_eq_true rfl) (Nat.le_of_ble_eq_true rfl) (lv_sub hl [0, 1, 2, 3] rfl) hP hS)
        · rw [hk] at hc3
          exact vx_catch hown (tableOf [(0, 76, 327, 87)]) ⟨77, 110, 327, 87⟩ (tableOf [(111, 136, 327, 87), (137, 162, 327, 87), (163, 198, 327, 87), (199, 230, 327, 87), (231, 254, 327, 87), (255, 296, 327, 87), (297, 326, 327, 87), (0, 76, 331, 89), (77, 110, 331, 89), (111, 136, 331, 89), (137, 162, 331, 89), (163, 198, 331, 89), (199, 230, 331, 89), (231, 254, 331, 89), (255, 296, 331, 89), (297, 326, 331, 89), (0, 76, 335, 91), (77, 110, 335, 91), (111, 136, 335, 91), (137, 162, 335, 91), (163, 198, 335, 91), (199, 230, 335, 91), (231, 254, 335, 91), (255, 296, 335, 91), (297, 326, 335, 91)]) (hxt.trans rfl) (kPass0 rfl) rfl (by decide) (hts (.classLink RL 87 "java/lang/IndexOutOfBoundsException") (by decide +kernel)) (va_Nw.use rfl (hE.1 2)) hc1 hc2 hc3 (hx327 _ _ _ _ _ _ (Nat.le_of_ble_eq_true rfl) (Nat.le_of_ble_eq_true rfl) (lv_sub hl [0, 1, 2, 3] rfl) hP hS)
        · rw [hk] at hc3
          exact vx_catch hown (tableOf [(0, 76, 327, 87), (77, 110, 327, 87), (111, 136, 327, 87), (137, 162, 327, 87), (163, 198, 327, 87), (199, 230, 327, 87), (231, 254, 327, 87), (255, 296, 327, 87), (297, 326, 327, 87), (0, 76, 331, 89), (77, 110, 331, 89), (111, 136, 331, 89), (137, 162, 331, 89), (163, 198, 331, 89), (199, 230, 331, 89), (231, 254, 331, 89), (255, 296, 331, 89), (297, 326, 331, 89), (0, 76, 335, 91)]) ⟨77, 110, 335, 91⟩ (tableOf [(111, 136, 335, 91), (137, 162, 335, 91), (163, 198, 335, 91), (199, 230, 335, 91), (231, 254, 335, 91), (255, 296, 335, 91), (297, 326, 335, 91)]) (hxt.trans rfl) (kPass2 (t1 := 87) (t2 := 89) (by decide) (by decide) rfl (hts (.classLink RL 87 "java/lang/IndexOutOfBoundsException") (by decide +kernel)) hNc.2.1 (hts (.classLink RL 89 "java/lang/IllegalArgumentException") (by decide +kernel)) hNc.2.2) rfl (by decide) (hts (.classLink RL 91 "java/lang/IllegalStateException") (by decide +kernel)) (va_Nw.use rfl (hE.1 3)) hc1 hc2 hc3 (hx335 _ _ _ _ _ _ (Nat.le_of_ble_eq_true rfl) (Nat.le_of_ble_eq_true rfl) (lv_sub hl [0, 1, 2, 3] rfl) hP hS)
      · skip
        refine lv_pop hx hb dL_act_108 rfl ?_
        refine lv_iconst (v := 0) hx hb dL_act_109 (by decide) ?_
        refine W.widen (k := 2) (n := 18) (Nat.le_of_ble_eq_true rfl) (Nat.le_of_ble_eq_true rfl) ?_
        exact W.iret (v := 0) hx hb hr0 (fun t ht hW => kJ_end (kAct0 g) hP hD hS ht) hS.2.2 dL_act_110
    · skip
      refine lv_iconst (v := 1) hx hb dL_act_100 (by decide) ?_
      refine lv_goto (tgt := 105) hx hb dL_act_101 (by decide) ?_
      refine kCallJX (vx_runV (As := [.int (nI j1), .int (nI j3), .int 1]) (rest := []) ⟨hx, hb, hml, hown, hts⟩ (c_edge l hl9 dC dI cI cN hG h3 (nI j1) (nI j3) 1 _) (cwV 3 hts gL_act_X6_edge rfl rfl rfl (by decide +kernel) ⟨Nat.le_of_ble_eq_true rfl, Nat.le_of_ble_eq_true rfl⟩) (kUE_V hP hK hD hN (kE_kept hE hS.2.1) hat) rfl rfl hl.1 rfl (lv_room (Nat.le_of_ble_eq_true rfl)) dL_act_105 ⟨Nat.le_of_ble_eq_true rfl, Nat.le_of_ble_eq_true rfl⟩) hP hD hS hA (fun k ce q9 H locs hP hS hc1 hc2 hc3 => ?_) (fun r7 w1 H locs g hP hD hS => ?_)
      · rcases kCls_or k with hk | hk | hk
        · rw [hk] at hc3
          exact vx_catch hown (tableOf [(0, 76, 327, 87), (77, 110, 327, 87), (111, 136, 327, 87), (137, 162, 327, 87), (163, 198, 327, 87), (199, 230, 327, 87), (231, 254, 327, 87), (255, 296, 327, 87), (297, 326, 327, 87), (0, 76, 331, 89)]) ⟨77, 110, 331, 89⟩ (tableOf [(111, 136, 331, 89), (137, 162, 331, 89), (163, 198, 331, 89), (199, 230, 331, 89), (231, 254, 331, 89), (255, 296, 331, 89), (297, 326, 331, 89), (0, 76, 335, 91), (77, 110, 335, 91), (111, 136, 335, 91), (137, 162, 335, 91), (163, 198, 335, 91), (199, 230, 335, 91), (231, 254, 335, 91), (255, 296, 335, 91), (297, 326, 335, 91)]) (hxt.trans rfl) (kPass1 (t1 := 87) (by decide) rfl (hts (.classLink RL 87 "java/lang/IndexOutOfBoundsException") (by decide +kernel)) hNc.1) rfl (by decide) (hts (.classLink RL 89 "java/lang/IllegalArgumentException") (by decide +kernel)) (va_Nw.use rfl (hE.1 1)) hc1 hc2 hc3 (hx331 _ _ _ _ _ _ (Nat.le_of_ble_eq_true rfl) (Nat.le_of_ble_eq_true rfl) (lv_sub hl [0, 1, 2, 3] rfl) hP hS)
        · rw [hk] at hc3
          exact vx_catch hown (tableOf [(0, 76, 327, 87)]) ⟨77, 110, 327, 87⟩ (tableOf [(111, 136, 327, 87), (137, 162, 327, 87), (163, 198, 327, 87), (199, 230, 327, 87), (231, 254, 327, 87), (255, 296, 327, 87), (297, 326, 327, 87), (0, 76, 331, 89), (77, 110, 331, 89), (111, 136, 331, 89), (137, 162, 331, 89), (163, 198, 331, 89), (199, 230, 331, 89), (231, 254, 331, 89), (255, 296, 331, 89), (297, 326, 331, 89), (0, 76, 335, 91), (77, 110, 335, 91), (111, 136, 335, 91), (137, 162, 335, 91), (163, 198, 335, 91), (199, 230, 335, 91), (231, 254, 335, 91), (255, 296, 335, 91), (297, 326, 335, 91)]) (hxt.trans rfl) (kPass0 rfl) rfl (by decide) (hts (.classLink RL 87 "java/lang/IndexOutOfBoundsException") (by decide +kernel)) (va_Nw.use rfl (hE.1 2)) hc1 hc2 hc3 (hx327 _ _ _ _ _ _ (Nat.le_of_ble_eq_true rfl) (Nat.le_of_ble_eq_true rfl) (lv_sub hl [0, 1, 2, 3] rfl) hP hS)
        · rw [hk] at hc3
          exact vx_catch hown (tableOf [(0, 76, 327, 87), (77, 110, 327, 87), (111, 136, 327, 87), (137, 162, 327, 87), (163, 198, 327, 87), (199, 230, 327, 87), (231, 254, 327, 87), (255, 296, 327, 87), (297, 326, 327, 87), (0, 76, 331, 89), (77, 110, 331, 89), (111, 136, 331, 89), (137, 162, 331, 89), (163, 198, 331, 89), (199, 230, 331, 89), (231, 254, 331, 89), (255, 296, 331, 89), (297, 326, 331, 89), (0, 76, 335, 91)]) ⟨77, 110, 335, 91⟩ (tableOf [(111, 136, 335, 91), (137, 162, 335, 91), (163, 198, 335, 91), (199, 230, 335, 91), (231, 254, 335, 91), (255, 296, 335, 91), (297, 326, 335, 91)]) (hxt.trans rfl) (kPass2 (t1 := 87) (t2 := 89) (by decide) (by decide) rfl (hts (.classLink RL 87 "java/lang/IndexOutOfBoundsException") (by decide +kernel)) hNc.2.1 (hts (.classLink RL 89 "java/lang/IllegalArgumentException") (by decide +kernel)) hNc.2.2) rfl (by decide) (hts (.classLink RL 91 "java/lang/IllegalStateException") (by decide +kernel)) (va_Nw.use rfl (hE.1 3)) hc1 hc2 hc3 (hx335 _ _ _ _ _ _ (Nat.le_of_ble_eq_true rfl) (Nat.le_of_ble_eq_true rfl) (lv_sub hl [0, 1, 2, 3] rfl) hP hS)
      · skip
        refine lv_pop hx hb dL_act_108 rfl ?_
        refine lv_iconst (v := 0) hx hb dL_act_109 (by decide) ?_
        refine W.widen (k := 2) (n := 18) (Nat.le_of_ble_eq_true rfl) (Nat.le_of_ble_eq_true rfl) ?_
        exact W.iret (v := 0) hx hb hr0 (fun t ht hW => kJ_end (kAct0 g) hP hD hS ht) hS.2.2 dL_act_110
  have b111 : W p l e (headSpec wsL_act rm_L_act).room s m (([.ref s0, .int x, .int what, .int (nI K)] : List Value).toArray) below meth c s.heap [] 0 0 (MQ below (kJ dC dI (kAct cI cN s0 K f) w s.heap.size) (([.ref s0, .int x, .int what, .int (nI K)] : List Value).toArray) s 2 18 (va_A w s.heap.size)) (F0 m 111 ls []) := by
    refine lv_aload_n hx hb dL_act_111 rfl (lv_at hl 0 rfl) ?_
    refine lv_iconst (v := 3) hx hb dL_act_112 (by decide) ?_
    refine lv_iload_n hx hb dL_act_113 rfl (lv_at hl 1 rfl) ?_
    refine lv_bipush (v := 8) hx hb dL_act_114 (by decide) ?_
    refine kCallB (va_runS (As := [.int x, .int (nI 8)]) (rest := [.int 3, .ref s0]) ⟨hx, hb, hml, hown, hts⟩ (k_L_below l x 8 (by decide) (by decide)) (va_cwS 2 hts gL_act_L_below rfl rfl rfl (by decide +kernel) ⟨Nat.le_of_ble_eq_true rfl, Nat.le_of_ble_eq_true rfl⟩) ⟨fun a U g mk q => q, fun U _ _ => ⟨rfl, trivial⟩⟩ rfl rfl hl.1 rfl (lv_room (Nat.le_of_ble_eq_true rfl)) dL_act_116 ⟨Nat.zero_le _, Nat.zero_le _⟩) hP hS (fun j1 H locs hj1 hP hS => ?_)
    refine lv_iadd hx hb dL_act_119 ?_
    refine kRen (y := nI (3 + j1)) (nI_add 3 j1) ?_
    refine lv_iconst (v := 2) hx hb dL_act_120 (by decide) ?_
    refine lv_iconst (v := 4) hx hb dL_act_121 (by decide) ?_
    refine lv_iload_n hx hb dL_act_122 rfl (lv_at hl 1 rfl) ?_
    refine lv_iconst (v := 3) hx hb dL_act_123 (by decide) ?_
    refine lv_ishr hx hb dL_act_124 ?_
    refine lv_topi (fun y2 _ => ?_)
    refine lv_iconst (v := 4) hx hb dL_act_125 (by decide) ?_
    refine kCallB (va_runS (As := [.int y2, .int (nI 4)]) (rest := [.int 4, .int 2, .int (nI (3 + j1)), .ref s0]) ⟨hx, hb, hml, hown, hts⟩ (k_L_below l y2 4 (by decide) (by decide)) (va_cwS 2 hts gL_act_L_below rfl rfl rfl (by decide +kernel) ⟨Nat.le_of_ble_eq_true rfl, Nat.le_of_ble_eq_true rfl⟩) ⟨fun a U g mk q => q, fun U _ _ => ⟨rfl, trivial⟩⟩ rfl rfl hl.1 rfl (lv_room (Nat.le_of_ble_eq_true rfl)) dL_act_126 ⟨Nat.zero_le _, Nat.zero_le _⟩) hP hS (fun j3 H locs hj3 hP hS => ?_)
    refine lv_imul hx hb dL_act_129 ?_
    refine lv_iadd hx hb dL_act_130 ?_
    refine kRen (y := nI (2 + 4 * j3)) (kTabMul j3 hj3) ?_
    refine kCallJX (vx_runV (As := [.int (nI (3 + j1)), .int (nI (2 + 4 * j3))]) (rest := []) ⟨hx, hb, hml, hown, hts⟩ (c_ring l hl9 dC dI cI cN hG (3 + j1) j3 (by omega) (by omega) (by omega) _) (cwV 2 hts gL_act_X6_ring rfl rfl rfl (by decide +kernel) ⟨Nat.le_of_ble_eq_true rfl, Nat.le_of_ble_eq_true rfl⟩) (kUE_V hP hK hD hN (kE_kept hE hS.2.1) hat) rfl rfl hl.1 rfl (lv_room (Nat.le_of_ble_eq_true rfl)) dL_act_131 ⟨Nat.le_of_ble_eq_true rfl, Nat.le_of_ble_eq_true rfl⟩) hP hD hS hA (fun k ce q9 H locs hP hS hc1 hc2 hc3 => ?_) (fun r4 w1 H locs g hP hD hS => ?_)
    · rcases kCls_or k with hk | hk | hk
      · rw [hk] at hc3
        exact vx_catch hown (tableOf [(0, 76, 327, 87), (77, 110, 327, 87), (111, 136, 327, 87), (137, 162, 327, 87), (163, 198, 327, 87), (199, 230, 327, 87), (231, 254, 327, 87), (255, 296, 327, 87), (297, 326, 327, 87), (0, 76, 331, 89), (77, 110, 331, 89)]) ⟨111, 136, 331, 89⟩ (tableOf [(137, 162, 331, 89), (163, 198, 331, 89), (199, 230, 331, 89), (231, 254, 331, 89), (255, 296, 331, 89), (297, 326, 331, 89), (0, 76, 335, 91), (77, 110, 335, 91), (111, 136, 335, 91), (137, 162, 335, 91), (163, 198, 335, 91), (199, 230, 335, 91), (231, 254, 335, 91), (255, 296, 335, 91), (297, 326, 335, 91)]) (hxt.trans rfl) (kPass1 (t1 := 87) (by decide) rfl (hts (.classLink RL 87 "java/lang/IndexOutOfBoundsException") (by decide +kernel)) hNc.1) rfl (by decide) (hts (.classLink RL 89 "java/lang/IllegalArgumentException") (by decide +kernel)) (va_Nw.use rfl (hE.1 1)) hc1 hc2 hc3 (hx331 _ _ _ _ _ _ (Nat.le_of_ble_eq_true rfl) (Nat.le_of_ble_eq_true rfl) (lv_sub hl [0, 1, 2, 3] rfl) hP hS)
      · rw [hk] at hc3
        exact vx_catch hown (tableOf [(0, 76, 327, 87), (77, 110, 327, 87)]) ⟨111, 136, 327, 87⟩ (tableOf [(137, 162, 327, 87), (163, 198, 327, 87), (199, 230, 327, 87), (231, 254, 327, 87), (255, 296, 327, 87), (297, 326, 327, 87), (0, 76, 331, 89), (77, 110, 331, 89), (111, 136, 331, 89), (137, 162, 331, 89), (163, 198, 331, 89), (199, 230, 331, 89), (231, 254, 331, 89), (255, 296, 331, 89), (297, 326, 331, 89), (0, 76, 335, 91), (77, 110, 335, 91), (111, 136, 335, 91), (137, 162, 335, 91), (163, 198, 335, 91), (199, 230, 335, 91), (231, 254, 335, 91), (255, 296, 335, 91), (297, 326, 335, 91)]) (hxt.trans rfl) (kPass0 rfl) rfl (by decide) (hts (.classLink RL 87 "java/lang/IndexOutOfBoundsException") (by decide +kernel)) (va_Nw.use rfl (hE.1 2)) hc1 hc2 hc3 (hx327 _ _ _ _ _ _ (Nat.le_of_ble_eq_true rfl) (Nat.le_of_ble_eq_true rfl) (lv_sub hl [0, 1, 2, 3] rfl) hP hS)
      · rw [hk] at hc3
        exact vx_catch hown (tableOf [(0, 76, 327, 87), (77, 110, 327, 87), (111, 136, 327, 87), (137, 162, 327, 87), (163, 198, 327, 87), (199, 230, 327, 87), (231, 254, 327, 87), (255, 296, 327, 87), (297, 326, 327, 87), (0, 76, 331, 89), (77, 110, 331, 89), (111, 136, 331, 89), (137, 162, 331, 89), (163, 198, 331, 89), (199, 230, 331, 89), (231, 254, 331, 89), (255, 296, 331, 89), (297, 326, 331, 89), (0, 76, 335, 91), (77, 110, 335, 91)]) ⟨111, 136, 335, 91⟩ (tableOf [(137, 162, 335, 91), (163, 198, 335, 91), (199, 230, 335, 91), (231, 254, 335, 91), (255, 296, 335, 91), (297, 326, 335, 91)]) (hxt.trans rfl) (kPass2 (t1 := 87) (t2 := 89) (by decide) (by decide) rfl (hts (.classLink RL 87 "java/lang/IndexOutOfBoundsException") (by decide +kernel)) hNc.2.1 (hts (.classLink RL 89 "java/lang/IllegalArgumentException") (by decide +kernel)) hNc.2.2) rfl (by decide) (hts (.classLink RL 91 "java/lang/IllegalStateException") (by decide +kernel)) (va_Nw.use rfl (hE.1 3)) hc1 hc2 hc3 (hx335 _ _ _ _ _ _ (Nat.le_of_ble_eq_true rfl) (Nat.le_of_ble_eq_true rfl) (lv_sub hl [0, 1, 2, 3] rfl) hP hS)
    · skip
      refine lv_pop hx hb dL_act_134 rfl ?_
      refine lv_iconst (v := 0) hx hb dL_act_135 (by decide) ?_
      refine W.widen (k := 2) (n := 18) (Nat.le_of_ble_eq_true rfl) (Nat.le_of_ble_eq_true rfl) ?_
      exact W.iret (v := 0) hx hb hr0 (fun t ht hW => kJ_end (kAct0 g) hP hD hS ht) hS.2.2 dL_act_136
  have b137 : W p l e (headSpec wsL_act rm_L_act).room s m (([.ref s0, .int x, .int what, .int (nI K)] : List Value).toArray) below meth c s.heap [] 0 0 (MQ below (kJ dC dI (kAct cI cN s0 K f) w s.heap.size) (([.ref s0, .int x, .int what, .int (nI K)] : List Value).toArray) s 2 18 (va_A w s.heap.size)) (F0 m 137 ls []) := by
    refine lv_aload_n hx hb dL_act_137 rfl (lv_at hl 0 rfl) ?_
    refine lv_iload_n hx hb dL_act_138 rfl (lv_at hl 1 rfl) ?_
    refine lv_iconst (v := 3) hx hb dL_act_139 (by decide) ?_
    refine lv_ishr hx hb dL_act_140 ?_
    refine lv_topi (fun y1 _ => ?_)
    refine lv_iconst (v := 1) hx hb dL_act_141 (by decide) ?_
    refine lv_bipush (v := 20) hx hb dL_act_142 (by decide) ?_
    refine lv_aload_n hx hb dL_act_144 rfl (lv_at hl 0 rfl) ?_
    refine lv_iconst (v := 1) hx hb dL_act_145 (by decide) ?_
    refine kCallJ (va_runV (As := [.int 1]) (rest := [.int 20, .int 1, .int y1, .ref s0]) ⟨hx, hb, hml, hown, hts⟩ (c_now1 l hl9 dC dI cI cN hG _) (cwV 1 hts gL_act_X6_now rfl rfl rfl (by decide +kernel) ⟨Nat.le_of_ble_eq_true rfl, Nat.le_of_ble_eq_true rfl⟩) (kUE_V hP hK hD hN (kE_kept hE hS.2.1) hat) rfl rfl hl.1 rfl (lv_room (Nat.le_of_ble_eq_true rfl)) dL_act_146 ⟨Nat.zero_le _, Nat.zero_le _⟩) hP hD hS hA (fun r2 w1 H locs g hP hD hS => ?_)
    obtain ⟨er2, ewr2⟩ := g
    rw [ewr2] at hP hD
    subst er2
    obtain ⟨mm, hm, hmm⟩ := kMin hN0
    refine va_mmin hx hb (hml.trans hl.1.symm) hown (hts (.methodLink RL 59 Lib.Math.min.name) (by decide +kernel)) (hts (.static Lib.Math.min.name) (by decide +kernel)) (hts (.initialized "java/lang/Math") (by decide +kernel)) (hts (.code Lib.Math.min.name Lib.Math.min.code 2 (some .int)) (by decide +kernel)) (Nat.le_of_ble_eq_true rfl) (Nat.le_of_ble_eq_true rfl) (Nat.zero_le _) (Nat.zero_le _) dL_act_149 ?_
    refine kRen (y := nI mm) hmm ?_
    refine lv_ishl hx hb dL_act_152 ?_
    refine kRen (y := nI (2 ^ mm)) (kTabShl mm hm) ?_
    refine kCallB (va_runS (As := [.int y1, .int (nI (2 ^ mm))]) (rest := [.ref s0]) ⟨hx, hb, hml, hown, hts⟩ (k_L_below l y1 (2 ^ mm) (Nat.two_pow_pos _) (kPow hm)) (va_cwS 2 hts gL_act_L_below rfl rfl rfl (by decide +kernel) ⟨Nat.le_of_ble_eq_true rfl, Nat.le_of_ble_eq_true rfl⟩) ⟨fun a U g mk q => q, fun U _ _ => ⟨rfl, trivial⟩⟩ rfl rfl hl.1 rfl (lv_room (Nat.le_of_ble_eq_true rfl)) dL_act_153 ⟨Nat.zero_le _, Nat.zero_le _⟩) hP hS (fun j3 H locs hj3 hP hS => ?_)
    refine kCallJX (vx_runV (As := [.int (nI j3)]) (rest := []) ⟨hx, hb, hml, hown, hts⟩ (c_doubled l hl9 dC dI cI cN hG (nI j3) _) (cwV 1 hts gL_act_X6_doubled rfl rfl rfl (by decide +kernel) ⟨Nat.le_of_ble_eq_true rfl, Nat.le_of_ble_eq_true rfl⟩) (kUE_V hP hK hD hN (kE_kept hE hS.2.1) hat) rfl rfl hl.1 rfl (lv_room (Nat.le_of_ble_eq_true rfl)) dL_act_156 ⟨Nat.le_of_ble_eq_true rfl, Nat.le_of_ble_eq_true rfl⟩) hP hD hS hA (fun k ce q9 H locs hP hS hc1 hc2 hc3 => ?_) (fun r4 w1 H locs g hP hD hS => ?_)
    · rcases kCls_or k with hk | hk | hk
      · rw [hk] at hc3
        exact vx_catch hown (tableOf [(0, 76, 327, 87), (77, 110, 327, 87), (111, 136, 327, 87), (137, 162, 327, 87), (163, 198, 327, 87), (199, 230, 327, 87), (231, 254, 327, 87), (255, 296, 327, 87), (297, 326, 327, 87), (0, 76, 331, 89), (77, 110, 331, 89), (111, 136, 331, 89)]) ⟨137, 162, 331, 89⟩ (tableOf [(163, 198, 331, 89), (199, 230, 331, 89), (231, 254, 331, 89), (255, 296, 331, 89), (297, 326, 331, 89), (0, 76, 335, 91), (77, 110, 335, 91), (111, 136, 335, 91), (137, 162, 335, 91), (163, 198, 335, 91), (199, 230, 335, 91), (231, 254, 335, 91), (255, 296, 335, 91), (297, 326, 335, 91)]) (hxt.trans rfl) (kPass1 (t1 := 87) (by decide) rfl (hts (.classLink RL 87 "java/lang/IndexOutOfBoundsException") (by decide +kernel)) hNc.1) rfl (by decide) (hts (.classLink RL 89 "java/lang/IllegalArgumentException") (by decide +kernel)) (va_Nw.use rfl (hE.1 1)) hc1 hc2 hc3 (hx331 _ _ _ _ _ _ (Nat.le_of_ble_eq_true rfl) (Nat.le_of_ble_eq_true rfl) (lv_sub hl [0, 1, 2, 3] rfl) hP hS)
      · rw [hk] at hc3
        exact vx_catch hown (tableOf [(0, 76, 327, 87), (77, 110, 327, 87), (111, 136, 327, 87)]) ⟨137, 162, 327, 87⟩ (tableOf [(163, 198, 327, 87), (199, 230, 327, 87), (231, 254, 327, 87), (255, 296, 327, 87), (297, 326, 327, 87), (0, 76, 331, 89), (77, 110, 331, 89), (111, 136, 331, 89), (137, 162, 331, 89), (163, 198, 331, 89), (199, 230, 331, 89), (231, 254, 331, 89), (255, 296, 331, 89), (297, 326, 331, 89), (0, 76, 335, 91), (77, 110, 335, 91), (111, 136, 335, 91), (137, 162, 335, 91), (163, 198, 335, 91), (199, 230, 335, 91), (231, 254, 335, 91), (255, 296, 335, 91), (297, 326, 335, 91)]) (hxt.trans rfl) (kPass0 rfl) rfl (by decide) (hts (.classLink RL 87 "java/lang/IndexOutOfBoundsException") (by decide +kernel)) (va_Nw.use rfl (hE.1 2)) hc1 hc2 hc3 (hx327 _ _ _ _ _ _ (Nat.le_of_ble_eq_true rfl) (Nat.le_of_ble_eq_true rfl) (lv_sub hl [0, 1, 2, 3] rfl) hP hS)
      · rw [hk] at hc3
        exact vx_catch hown (tableOf [(0, 76, 327, 87), (77, 110, 327, 87), (111, 136, 327, 87), (137, 162, 327, 87), (163, 198, 327, 87), (199, 230, 327, 87), (231, 254, 327, 87), (255, 296, 327, 87), (297, 326, 327, 87), (0, 76, 331, 89), (77, 110, 331, 89), (111, 136, 331, 89), (137, 162, 331, 89), (163, 198, 331, 89), (199, 230, 331, 89), (231, 254, 331, 89), (255, 296, 331, 89), (297, 326, 331, 89), (0, 76, 335, 91), (77, 110, 335, 91), (111, 136, 335, 91)]) ⟨137, 162, 335, 91⟩ (tableOf [(163, 198, 335, 91), (199, 230, 335, 91), (231, 254, 335, 91), (255, 296, 335, 91), (297, 326, 335, 91)]) (hxt.trans rfl) (kPass2 (t1 := 87) (t2 := 89) (by decide) (by decide) rfl (hts (.classLink RL 87 "java/lang/IndexOutOfBoundsException") (by decide +kernel)) hNc.2.1 (hts (.classLink RL 89 "java/lang/IllegalArgumentException") (by decide +kernel)) hNc.2.2) rfl (by decide) (hts (.classLink RL 91 "java/lang/IllegalStateException") (by decide +kernel)) (va_Nw.use rfl (hE.1 3)) hc1 hc2 hc3 (hx335 _ _ _ _ _ _ (Nat.le_of_ble_eq_true rfl) (Nat.le_of_ble_eq_true rfl) (lv_sub hl [0, 1, 2, 3] rfl) hP hS)
    · skip
      obtain ⟨f1, o1, c1, l1, a1, g3, hG1, g4, g5⟩ := g
      refine lv_pop hx hb dL_act_159 rfl ?_
      refine lv_bipush (v := 7) hx hb dL_act_160 (by decide) ?_
      refine W.widen (k := 2) (n := 18) (Nat.le_of_ble_eq_true rfl) (Nat.le_of_ble_eq_true rfl) ?_
      exact W.iret (v := 7) hx hb hr0 (fun t ht hW => kJ_end (⟨2 * K, _, _, _, _, _, g3, hG1, fun q => absurd q (by decide), fun _ => ⟨rfl, g4, g5⟩⟩) hP hD hS ht) hS.2.2 dL_act_162
  have b163 : W p l e (headSpec wsL_act rm_L_act).room s m (([.ref s0, .int x, .int what, .int (nI K)] : List Value).toArray) below meth c s.heap [] 0 0 (MQ below (kJ dC dI (kAct cI cN s0 K f) w s.heap.size) (([.ref s0, .int x, .int what, .int (nI K)] : List Value).toArray) s 2 18 (va_A w s.heap.size)) (F0 m 163 ls []) := by
    refine lv_aload_n hx hb dL_act_163 rfl (lv_at hl 0 rfl) ?_
    refine lv_iload_n hx hb dL_act_164 rfl (lv_at hl 1 rfl) ?_
    refine lv_bipush (v := 12) hx hb dL_act_165 (by decide) ?_
    refine kCallB (va_runS (As := [.int x, .int (nI 12)]) (rest := [.ref s0]) ⟨hx, hb, hml, hown, hts⟩ (k_L_below l x 12 (by decide) (by decide)) (va_cwS 2 hts gL_act_L_below rfl rfl rfl (by decide +kernel) ⟨Nat.le_of_ble_eq_true rfl, Nat.le_of_ble_eq_true rfl⟩) ⟨fun a U g mk q => q, fun U _ _ => ⟨rfl, trivial⟩⟩ rfl rfl hl.1 rfl (lv_room (Nat.le_of_ble_eq_true rfl)) dL_act_167 ⟨Nat.zero_le _, Nat.zero_le _⟩) hP hS (fun j1 H locs hj1 hP hS => ?_)
    refine lv_iload_n hx hb dL_act_170 rfl (lv_at hl 1 rfl) ?_
    refine lv_iconst (v := 3) hx hb dL_act_171 (by decide) ?_
    refine lv_ishr hx hb dL_act_172 ?_
    refine lv_topi (fun y2 _ => ?_)
    refine lv_bipush (v := 12) hx hb dL_act_173 (by decide) ?_
    refine kCallB (va_runS (As := [.int y2, .int (nI 12)]) (rest := [.int (nI j1), .ref s0]) ⟨hx, hb, hml, hown, hts⟩ (k_L_below l y2 12 (by decide) (by decide)) (va_cwS 2 hts gL_act_L_below rfl rfl rfl (by decide +kernel) ⟨Nat.le_of_ble_eq_true rfl, Nat.le_of_ble_eq_true rfl⟩) ⟨fun a U g mk q => q, fun U _ _ => ⟨rfl, trivial⟩⟩ rfl rfl hl.1 rfl (lv_room (Nat.le_of_ble_eq_true rfl)) dL_act_175 ⟨Nat.zero_le _, Nat.zero_le _⟩) hP hS (fun j3 H locs hj3 hP hS => ?_)
    refine lv_iload_n hx hb dL_act_178 rfl (lv_at hl 1 rfl) ?_
    refine lv_iconst (v := 5) hx hb dL_act_179 (by decide) ?_
    refine lv_ishr hx hb dL_act_180 ?_
    refine lv_topi (fun y4 _ => ?_)
    refine lv_iconst (v := 2) hx hb dL_act_181 (by decide) ?_
    refine kCallB (va_runS (As := [.int y4, .int (nI 2)]) (rest := [.int (nI j3), .int (nI j1), .ref s0]) ⟨hx, hb, hml, hown, hts⟩ (k_L_below l y4 2 (by decide) (by decide)) (va_cwS 2 hts gL_act_L_below rfl rfl rfl (by decide +kernel) ⟨Nat.le_of_ble_eq_true rfl, Nat.le_of_ble_eq_true rfl⟩) ⟨fun a U g mk q => q, fun U _ _ => ⟨rfl, trivial⟩⟩ rfl rfl hl.1 rfl (lv_room (Nat.le_of_ble_eq_true rfl)) dL_act_182 ⟨Nat.zero_le _, Nat.zero_le _⟩) hP hS (fun j5 H locs hj5 hP hS => ?_)
    refine lv_if_ne (tgt := 192) hx hb dL_act_185 (by decide) (fun c6 => ?_) (fun c6 => ?_)
    · skip
      refine lv_iconst (v := 0) hx hb dL_act_192 (by decide) ?_
      refine kCallJX (vx_runV (As := [.int (nI j1), .int (nI j3), .int 0]) (rest := []) ⟨hx, hb, hml, hown, hts⟩ (c_swap l hl9 dC dI cI cN hG h3 (nI j1) (nI j3) 0 _) (cwV 3 hts gL_act_X6_swap rfl rfl rfl (by decide +kernel) ⟨Nat.le_of_ble_eq_true rfl, Nat.le_of_ble_eq_true rfl⟩) (kUE_V hP hK hD hN (kE_kept hE hS.2.1) hat) rfl rfl hl.1 rfl (lv_room (Nat.le_of_ble_eq_true rfl)) dL_act_193 ⟨Nat.le_of_ble_eq_true rfl, Nat.le_of_ble_eq_true rfl⟩) hP hD hS hA (fun k ce q9 H locs hP hS hc1 hc2 hc3 => ?_) (fun r7 w1 H locs g hP hD hS => ?_)
      · rcases kCls_or k with hk | hk | hk
        · rw [hk] at hc3
          exact vx_catch hown (tableOf [(0, 76, 327, 87), (77, 110, 327, 87), (111, 136, 327, 87), (137, 162, 327, 87), (163, 198, 327, 87), (199, 230, 327, 87), (231, 254, 327, 87), (255, 296, 327, 87), (297, 326, 327, 87), (0, 76, 331, 89), (77, 110, 331, 89), (111, 136, 331, 89), (137, 162, 331, 89)]) ⟨163, 198, 331, 89⟩ (tableOf [(199, 230, 331, 89), (231, 254, 331, 89), (255, 296, 331, 89), (297, 326, 331, 89), (0, 76, 335, 91), (77, 110, 335, 91), (111, 136, 335, 91), (137, 162, 335, 91), (163, 198, 335, 91), (199, 230, 335, 91), (231, 254, 335, 91), (255, 296, 335, 91), (297, 326, 335, 91)]) (hxt.trans rfl) (kPass1 (t1 := 87) (by decide) rfl (hts (.classLink RL 87 "java/lang/IndexOutOfBoundsException") (by decide +kernel)) hNc.1) rfl (by decide) (hts (.classLink RL 89 "java/lang/IllegalArgumentException") (by decide +kernel)) (va_Nw.use rfl (hE.1 1)) hc1 hc2 hc3 (hx331 _ _ _ _ _ _ (Nat.le_of_ble_eq_true rfl) (Nat.le_of_ble_eq_true rfl) (lv_sub hl [0, 1, 2, 3] rfl) hP hS)
        · rw [hk] at hc3
          exact vx_catch hown (tableOf [(0, 76, 327, 87), (77, 110, 327, 87), (111, 136, 327, 87), (137, 162, 327, 87)]) ⟨163, 198, 327, 87⟩ (tableOf [(199, 230, 327, 87), (231, 254, 327, 87), (255, 296, 327, 87), (297, 326, 327, 87), (0, 76, 331, 89), (77, 110, 331, 89), (111, 136, 331, 89), (137, 162, 331, 89), (163, 198, 331, 89), (199, 230, 331, 89), (231, 254, 331, 89), (255, 296, 331, 89), (297, 326, 331, 89), (0, 76, 335, 91), (77, 110, 335, 91), (111, 136, 335, 91), (137, 162, 335, 91), (163, 198, 335, 91), (199, 230, 335, 91), (231, 254, 335, 91), (255, 296, 335, 91), (297, 326, 335, 91)]) (hxt.trans rfl) (kPass0 rfl) rfl (by decide) (hts (.classLink RL 87 "java/lang/IndexOutOfBoundsException") (by decide +kernel)) (va_Nw.use rfl (hE.1 2)) hc1 hc2 hc3 (hx327 _ _ _ _ _ _ (Nat.le_of_ble_eq_true rfl) (Nat.le_of_ble_eq_true rfl) (lv_sub hl [0, 1, 2, 3] rfl) hP hS)
        · rw [hk] at hc3
          exact vx_catch hown (tableOf [(0, 76, 327, 87), (77, 110, 327, 87), (111, 136, 327, 87), (137, 162, 327, 87), (163, 198, 327, 87), (199, 230, 327, 87), (231, 254, 327, 87), (255, 296, 327, 87), (297, 326, 327, 87), (0, 76, 331, 89), (77, 110, 331, 89), (111, 136, 331, 89), (137, 162, 331, 89), (163, 198, 331, 89), (199, 230, 331, 89), (231, 254, 331, 89), (255, 296, 331, 89), (297, 326, 331, 89), (0, 76, 335, 91), (77, 110, 335, 91), (111, 136, 335, 91), (137, 162, 335, 91)]) ⟨163, 198, 335, 91⟩ (tableOf [(199, 230, 335, 91), (231, 254, 335, 91), (255, 296, 335, 91), (297, 326, 335, 91)]) (hxt.trans rfl) (kPass2 (t1 := 87) (t2 := 89) (by decide) (by decide) rfl (hts (.classLink RL 87 "java/lang/IndexOutOfBoundsException") (by decide +kernel)) hNc.2.1 (hts (.classLink RL 89 "java/lang/IllegalArgumentException") (by decide +kernel)) hNc.2.2) rfl (by decide) (hts (.classLink RL 91 "java/lang/IllegalStateException") (by decide +kernel)) (va_Nw.use rfl (hE.1 3)) hc1 hc2 hc3 (hx335 _ _ _ _ _ _ (Nat.le_of_ble_eq_true rfl) (Nat.le_of_ble_eq_true rfl) (lv_sub hl [0, 1, 2, 3] rfl) hP hS)
      · skip
        refine lv_pop hx hb dL_act_196 rfl ?_
        refine lv_iconst (v := 0) hx hb dL_act_197 (by decide) ?_
        refine W.widen (k := 2) (n := 18) (Nat.le_of_ble_eq_true rfl) (Nat.le_of_ble_eq_true rfl) ?_
        exact W.iret (v := 0) hx hb hr0 (fun t ht hW => kJ_end (kAct0 g) hP hD hS ht) hS.2.2 dL_act_198
    · skip
      refine lv_iconst (v := 1) hx hb dL_act_188 (by decide) ?_
      refine lv_goto (tgt := 193) hx hb dL_act_189 (by decide) ?_
      refine kCallJX (vx_runV (As := [.int (nI j1), .int (nI j3), .int 1]) (rest := []) ⟨hx, hb, hml, hown, hts⟩ (c_swap l hl9 dC dI cI cN hG h3 (nI j1) (nI j3) 1 _) (cwV 3 hts gL_act_X6_swap rfl rfl rfl (by decide +kernel) ⟨Nat.le_of_ble_eq_true rfl, Nat.le_of_ble_eq_true rfl⟩) (kUE_V hP hK hD hN (kE_kept hE hS.2.1) hat) rfl rfl hl.1 rfl (lv_room (Nat.le_of_ble_eq_true rfl)) dL_act_193 ⟨Nat.le_of_ble_eq_true rfl, Nat.le_of_ble_eq_true rfl⟩) hP hD hS hA (fun k ce q9 H locs hP hS hc1 hc2 hc3 => ?_) (fun r7 w1 H locs g hP hD hS => ?_)
      · rcases kCls_or k with hk | hk | hk
        · rw [hk] at hc3
          exact vx_catch hown (tableOf [(0, 76, 327, 87), (77, 110, 327, 87), (111, 136, 327, 87), (137, 162, 327, 87), (163, 198, 327, 87), (199, 230, 327, 87), (231, 254, 327, 87), (255, 296, 327, 87), (297, 326, 327, 87), (0, 76, 331, 89), (77, 110, 331, 89), (111, 136, 331, 89), (137, 162, 331, 89)]) ⟨163, 198, 331, 89⟩ (tableOf [(199, 230, 331, 89), (231, 254, 331, 89), (255, 296, 331, 89), (297, 326, 331, 89), (0, 76, 335, 91), (77, 110, 335, 91), (111, 136, 335, 91), (137, 162, 335, 91), (163, 198, 335, 91), (199, 230, 335, 91), (231, 254, 335, 91), (255, 296, 335, 91), (297, 326, 335, 91)]) (hxt.trans rfl) (kPass1 (t1 := 87) (by decide) rfl (hts (.classLink RL 87 "java/lang/IndexOutOfBoundsException") (by decide +kernel)) hNc.1) rfl (by decide) (hts (.classLink RL 89 "java/lang/IllegalArgumentException") (by decide +kernel)) (va_Nw.use rfl (hE.1 1)) hc1 hc2 hc3 (hx331 _ _ _ _ _ _ (Nat.le_of_ble_eq_true rfl) (Nat.le_of_ble_eq_true rfl) (lv_sub hl [0, 1, 2, 3] rfl) hP hS)
        · rw [hk] at hc3
          exact vx_catch hown (tableOf [(0, 76, 327, 87), (77, 110, 327, 87), (111, 136, 327, 87), (137, 162, 327, 87)]) ⟨163, 198, 327, 87⟩ (tableOf [(199, 230, 327, 87), (231, 254, 327, 87), (255, 296, 327, 87), (297, 326, 327, 87), (0, 76, 331, 89), (77, 110, 331, 89), (111, 136, 331, 89), (137, 162, 331, 89), (163, 198, 331, 89), (199, 230, 331, 89), (231, 254, 331, 89), (255, 296, 331, 89), (297, 326, 331, 89), (0, 76, 335, 91), (77, 110, 335, 91), (111, 136, 335, 91), (137, 162, 335, 91), (163, 198, 335, 91), (199, 230, 335, 91), (231, 254, 335, 91), (255, 296, 335, 91), (297, 326, 335, 91)]) (hxt.trans rfl) (kPass0 rfl) rfl (by decide) (hts (.classLink RL 87 "java/lang/IndexOutOfBoundsException") (by decide +kernel)) (va_Nw.use rfl (hE.1 2)) hc1 hc2 hc3 (hx327 _ _ _ _ _ _ (Nat.le_of_ble_eq_true rfl) (Nat.le_of_ble_eq_true rfl) (lv_sub hl [0, 1, 2, 3] rfl) hP hS)
        · rw [hk] at hc3
          exact vx_catch hown (tableOf [(0, 76, 327, 87), (77, 110, 327, 87), (111, 136, 327, 87), (137, 162, 327, 87), (163, 198, 327, 87), (199, 230, 327, 87), (231, 254, 327, 87), (255, 296, 327, 87), (297, 326, 327, 87), (0, 76, 331, 89), (77, 110, 331, 89), (111, 136, 331, 89), (137, 162, 331, 89), (163, 198, 331, 89), (199, 230, 331, 89), (231, 254, 331, 89), (255, 296, 331, 89), (297, 326, 331, 89), (0, 76, 335, 91), (77, 110, 335, 91), (111, 136, 335, 91), (137, 162, 335, 91)]) ⟨163, 198, 335, 91⟩ (tableOf [(199, 230, 335, 91), (231, 254, 335, 91), (255, 296, 335, 91), (297, 326, 335, 91)]) (hxt.trans rfl) (kPass2 (t1 := 87) (t2 := 89) (by decide) (by decide) rfl (hts (.classLink RL 87 "java/lang/IndexOutOfBoundsException") (by decide +kernel)) hNc.2.1 (hts (.classLink RL 89 "java/lang/IllegalArgumentException") (by decide +kernel)) hNc.2.2) rfl (by decide) (hts (.classLink RL 91 "java/lang/IllegalStateException") (by decide +kernel)) (va_Nw.use rfl (hE.1 3)) hc1 hc2 hc3 (hx335 _ _ _ _ _ _ (Nat.le_of_ble_eq_true rfl) (Nat.le_of_ble_eq_true rfl) (lv_sub hl [0, 1, 2, 3] rfl) hP hS)
      · skip
        refine lv_pop hx hb dL_act_196 rfl ?_
        refine lv_iconst (v := 0) hx hb dL_act_197 (by decide) ?_
        refine W.widen (k := 2) (n := 18) (Nat.le_of_ble_eq_true rfl) (Nat.le_of_ble_eq_true rfl) ?_
        exact W.iret (v := 0) hx hb hr0 (fun t ht hW => kJ_end (kAct0 g) hP hD hS ht) hS.2.2 dL_act_198
  have b199 : W p l e (headSpec wsL_act rm_L_act).room s m (([.ref s0, .int x, .int what, .int (nI K)] : List Value).toArray) below meth c s.heap [] 0 0 (MQ below (kJ dC dI (kAct cI cN s0 K f) w s.heap.size) (([.ref s0, .int x, .int what, .int (nI K)] : List Value).toArray) s 2 18 (va_A w s.heap.size)) (F0 m 199 ls []) := by
    refine lv_aload_n hx hb dL_act_199 rfl (lv_at hl 0 rfl) ?_
    refine lv_iconst (v := 4) hx hb dL_act_200 (by decide) ?_
    refine lv_iload_n hx hb dL_act_201 rfl (lv_at hl 1 rfl) ?_
    refine lv_iconst (v := 5) hx hb dL_act_202 (by decide) ?_
    refine kCallB (va_runS (As := [.int x, .int (nI 5)]) (rest := [.int 4, .ref s0]) ⟨hx, hb, hml, hown, hts⟩ (k_L_below l x 5 (by decide) (by decide)) (va_cwS 2 hts gL_act_L_below rfl rfl rfl (by decide +kernel) ⟨Nat.le_of_ble_eq_true rfl, Nat.le_of_ble_eq_true rfl⟩) ⟨fun a U g mk q => q, fun U _ _ => ⟨rfl, trivial⟩⟩ rfl rfl hl.1 rfl (lv_room (Nat.le_of_ble_eq_true rfl)) dL_act_203 ⟨Nat.zero_le _, Nat.zero_le _⟩) hP hS (fun j1 H locs hj1 hP hS => ?_)
    refine lv_iadd hx hb dL_act_206 ?_
    refine lv_topi (fun y2 ey2 => ?_)
    refine lv_iload_n hx hb dL_act_207 rfl (lv_at hl 1 rfl) ?_
    refine lv_iconst (v := 2) hx hb dL_act_208 (by decide) ?_
    refine lv_ishr hx hb dL_act_209 ?_
    refine lv_topi (fun y3 _ => ?_)
    refine lv_sipush (v := 9999) hx hb dL_act_210 (by decide) ?_
    refine kCallB (va_runS (As := [.int y3, .int (nI 9999)]) (rest := [.int y2, .ref s0]) ⟨hx, hb, hml, hown, hts⟩ (k_L_below l y3 9999 (by decide) (by decide)) (va_cwS 2 hts gL_act_L_below rfl rfl rfl (by decide +kernel) ⟨Nat.le_of_ble_eq_true rfl, Nat.le_of_ble_eq_true rfl⟩) ⟨fun a U g mk q => q, fun U _ _ => ⟨rfl, trivial⟩⟩ rfl rfl hl.1 rfl (lv_room (Nat.le_of_ble_eq_true rfl)) dL_act_213 ⟨Nat.zero_le _, Nat.zero_le _⟩) hP hS (fun j4 H locs hj4 hP hS => ?_)
    refine lv_iconst (v := 1) hx hb dL_act_216 (by decide) ?_
    refine lv_iload_n hx hb dL_act_217 rfl (lv_at hl 1 rfl) ?_
    refine lv_iconst (v := 4) hx hb dL_act_218 (by decide) ?_
    refine lv_ishr hx hb dL_act_219 ?_
    refine lv_topi (fun y5 _ => ?_)
    refine lv_iconst (v := 4) hx hb dL_act_220 (by decide) ?_
    refine kCallB (va_runS (As := [.int y5, .int (nI 4)]) (rest := [.int 1, .int (nI j4), .int y2, .ref s0]) ⟨hx, hb, hml, hown, hts⟩ (k_L_below l y5 4 (by decide) (by decide)) (va_cwS 2 hts gL_act_L_below rfl rfl rfl (by decide +kernel) ⟨Nat.le_of_ble_eq_true rfl, Nat.le_of_ble_eq_true rfl⟩) ⟨fun a U g mk q => q, fun U _ _ => ⟨rfl, trivial⟩⟩ rfl rfl hl.1 rfl (lv_room (Nat.le_of_ble_eq_true rfl)) dL_act_221 ⟨Nat.zero_le _, Nat.zero_le _⟩) hP hS (fun j6 H locs hj6 hP hS => ?_)
    refine lv_iadd hx hb dL_act_224 ?_
    refine lv_topi (fun y7 ey7 => ?_)
    refine kCallJX (vx_runV (As := [.int y2, .int (nI j4), .int y7]) (rest := []) ⟨hx, hb, hml, hown, hts⟩ (c_mend l hl9 dC dI cI cN hG h3 y2 (nI j4) y7 _) (cwV 3 hts gL_act_X6_mend rfl rfl rfl (by decide +kernel) ⟨Nat.le_of_ble_eq_true rfl, Nat.le_of_ble_eq_true rfl⟩) (kUE_V hP hK hD hN (kE_kept hE hS.2.1) hat) rfl rfl hl.1 rfl (lv_room (Nat.le_of_ble_eq_true rfl)) dL_act_225 ⟨Nat.le_of_ble_eq_true rfl, Nat.le_of_ble_eq_true rfl⟩) hP hD hS hA (fun k ce q9 H locs hP hS hc1 hc2 hc3 => ?_) (fun r8 w1 H locs g hP hD hS => ?_)
    · rcases kCls_or k with hk | hk | hk
      · rw [hk] at hc3
        exact vx_catch hown (tableOf [(0, 76, 327, 87), (77, 110, 327, 87), (111, 136, 327, 87), (137, 162, 327, 87), (163, 198, 327, 87), (199, 230, 327, 87), (231, 254, 327, 87), (255, 296, 327, 87), (297, 326, 327, 87), (0, 76, 331, 89), (77, 110, 331, 89), (111, 136, 331, 89), (137, 162, 331, 89), (163, 198, 331, 89)]) ⟨199, 230, 331, 89⟩ (tableOf [(231, 254, 331, 89), (255, 296, 331, 89), (297, 326, 331, 89), (0, 76, 335, 91), (77, 110, 335, 91), (111, 136, 335, 91), (137, 162, 335, 91), (163, 198, 335, 91), (199, 230, 335, 91), (231, 254, 335, 91), (255, 296, 335, 91), (297, 326, 335, 91)]) (hxt.trans rfl) (kPass1 (t1 := 87) (by decide) rfl (hts (.classLink RL 87 "java/lang/IndexOutOfBoundsException") (by decide +kernel)) hNc.1) rfl (by decide) (hts (.classLink RL 89 "java/lang/IllegalArgumentException") (by decide +kernel)) (va_Nw.use rfl (hE.1 1)) hc1 hc2 hc3 (hx331 _ _ _ _ _ _ (Nat.le_of_ble_eq_true rfl) (Nat.le_of_ble_eq_true rfl) (lv_sub hl [0, 1, 2, 3] rfl) hP hS)
      · rw [hk] at hc3
        exact vx_catch hown (tableOf [(0, 76, 327, 87), (77, 110, 327, 87), (111, 136, 327, 87), (137, 162, 327, 87), (163, 198, 327, 87)]) ⟨199, 230, 327, 87⟩ (tableOf [(231, 254, 327, 87), (255, 296, 327, 87), (297, 326, 327, 87), (0, 76, 331, 89), (77, 110, 331, 89), (111, 136, 331, 89), (137, 162, 331, 89), (163, 198, 331, 89), (199, 230, 331, 89), (231, 254, 331, 89), (255, 296, 331, 89), (297, 326, 331, 89), (0, 76, 335, 91), (77, 110, 335, 91), (111, 136, 335, 91), (137, 162, 335, 91), (163, 198, 335, 91), (199, 230, 335, 91), (231, 254, 335, 91), (255, 296, 335, 91), (297, 326, 335, 91)]) (hxt.trans rfl) (kPass0 rfl) rfl (by decide) (hts (.classLink RL 87 "java/lang/IndexOutOfBoundsException") (by decide +kernel)) (va_Nw.use rfl (hE.1 2)) hc1 hc2 hc3 (hx327 _ _ _ _ _ _ (Nat.le_of_ble_eq_true rfl) (Nat.le_of_ble_eq_true rfl) (lv_sub hl [0, 1, 2, 3] rfl) hP hS)
      · rw [hk] at hc3
        exact vx_catch hown (tableOf [(0, 76, 327, 87), (77, 110, 327, 87), (111, 136, 327, 87), (137, 162, 327, 87), (163, 198, 327, 87), (199, 230, 327, 87), (231, 254, 327, 87), (255, 296, 327, 87), (297, 326, 327, 87), (0, 76, 331, 89), (77, 110, 331, 89), (111, 136, 331, 89), (137, 162, 331, 89), (163, 198, 331, 89), (199, 230, 331, 89), (231, 254, 331, 89), (255, 296, 331, 89), (297, 326, 331, 89), (0, 76, 335, 91), (77, 110, 335, 91), (111, 136, 335, 91), (137, 162, 335, 91), (163, 198, 335, 91)]) ⟨199, 230, 335, 91⟩ (tableOf [(231, 254, 335, 91), (255, 296, 335, 91), (297, 326, 335, 91)]) (hxt.trans rfl) (kPass2 (t1 := 87) (t2 := 89) (by decide) (by decide) rfl (hts (.classLink RL 87 "java/lang/IndexOutOfBoundsException") (by decide +kernel)) hNc.2.1 (hts (.classLink RL 89 "java/lang/IllegalArgumentException") (by decide +kernel)) hNc.2.2) rfl (by decide) (hts (.classLink RL 91 "java/lang/IllegalStateException") (by decide +kernel)) (va_Nw.use rfl (hE.1 3)) hc1 hc2 hc3 (hx335 _ _ _ _ _ _ (Nat.le_of_ble_eq_true rfl) (Nat.le_of_ble_eq_true rfl) (lv_sub hl [0, 1, 2, 3] rfl) hP hS)
    · skip
      refine lv_pop hx hb dL_act_228 rfl ?_
      refine lv_iconst (v := 0) hx hb dL_act_229 (by decide) ?_
      refine W.widen (k := 2) (n := 18) (Nat.le_of_ble_eq_true rfl) (Nat.le_of_ble_eq_true rfl) ?_
      exact W.iret (v := 0) hx hb hr0 (fun t ht hW => kJ_end (kAct0 g) hP hD hS ht) hS.2.2 dL_act_230
  have b231 : W p l e (headSpec wsL_act rm_L_act).room s m (([.ref s0, .int x, .int what, .int (nI K)] : List Value).toArray) below meth c s.heap [] 0 0 (MQ below (kJ dC dI (kAct cI cN s0 K f) w s.heap.size) (([.ref s0, .int x, .int what, .int (nI K)] : List Value).toArray) s 2 18 (va_A w s.heap.size)) (F0 m 231 ls []) := by
    refine lv_aload_n hx hb dL_act_231 rfl (lv_at hl 0 rfl) ?_
    refine lv_iconst (v := 2) hx hb dL_act_232 (by decide) ?_
    refine lv_iload_n hx hb dL_act_233 rfl (lv_at hl 1 rfl) ?_
    refine lv_iconst (v := 4) hx hb dL_act_234 (by decide) ?_
    refine kCallB (va_runS (As := [.int x, .int (nI 4)]) (rest := [.int 2, .ref s0]) ⟨hx, hb, hml, hown, hts⟩ (k_L_below l x 4 (by decide) (by decide)) (va_cwS 2 hts gL_act_L_below rfl rfl rfl (by decide +kernel) ⟨Nat.le_of_ble_eq_true rfl, Nat.le_of_ble_eq_true rfl⟩) ⟨fun a U g mk q => q, fun U _ _ => ⟨rfl, trivial⟩⟩ rfl rfl hl.1 rfl (lv_room (Nat.le_of_ble_eq_true rfl)) dL_act_235 ⟨Nat.zero_le _, Nat.zero_le _⟩) hP hS (fun j1 H locs hj1 hP hS => ?_)
    refine lv_iadd hx hb dL_act_238 ?_
    refine lv_topi (fun y2 ey2 => ?_)
    refine lv_iconst (v := 3) hx hb dL_act_239 (by decide) ?_
    refine lv_iload_n hx hb dL_act_240 rfl (lv_at hl 1 rfl) ?_
    refine lv_iconst (v := 3) hx hb dL_act_241 (by decide) ?_
    refine lv_ishr hx hb dL_act_242 ?_
    refine lv_topi (fun y3 _ => ?_)
    refine lv_bipush (v := 6) hx hb dL_act_243 (by decide) ?_
    refine kCallB (va_runS (As := [.int y3, .int (nI 6)]) (rest := [.int 3, .int y2, .ref s0]) ⟨hx, hb, hml, hown, hts⟩ (k_L_below l y3 6 (by decide) (by decide)) (va_cwS 2 hts gL_act_L_below rfl rfl rfl (by decide +kernel) ⟨Nat.le_of_ble_eq_true rfl, Nat.le_of_ble_eq_true rfl⟩) ⟨fun a U g mk q => q, fun U _ _ => ⟨rfl, trivial⟩⟩ rfl rfl hl.1 rfl (lv_room (Nat.le_of_ble_eq_true rfl)) dL_act_245 ⟨Nat.zero_le _, Nat.zero_le _⟩) hP hS (fun j4 H locs hj4 hP hS => ?_)
    refine lv_iadd hx hb dL_act_248 ?_
    refine lv_topi (fun y5 ey5 => ?_)
    refine kCallJX (vx_runV (As := [.int y2, .int y5]) (rest := []) ⟨hx, hb, hml, hown, hts⟩ (c_aim l hl9 dC dI cI cN hG h3 y2 y5 _) (cwV 2 hts gL_act_X6_aim rfl rfl rfl (by decide +kernel) ⟨Nat.le_of_ble_eq_true rfl, Nat.le_of_ble_eq_true rfl⟩) (kUE_V hP hK hD hN (kE_kept hE hS.2.1) hat) rfl rfl hl.1 rfl (lv_room (Nat.le_of_ble_eq_true rfl)) dL_act_249 ⟨Nat.le_of_ble_eq_true rfl, Nat.le_of_ble_eq_true rfl⟩) hP hD hS hA (fun k ce q9 H locs hP hS hc1 hc2 hc3 => ?_) (fun r6 w1 H locs g hP hD hS => ?_)
    · rcases kCls_or k with hk | hk | hk
      · rw [hk] at hc3
        exact vx_catch hown (tableOf [(0, 76, 327, 87), (77, 110, 327, 87), (111, 136, 327, 87), (137, 162, 327, 87), (163, 198, 327, 87), (199, 230, 327, 87), (231, 254, 327, 87), (255, 296, 327, 87), (297, 326, 327, 87), (0, 76, 331, 89), (77, 110, 331, 89), (111, 136, 331, 89), (137, 162, 331, 89), (163, 198, 331, 89), (199, 230, 331, 89)]) ⟨231, 254, 331, 89⟩ (tableOf [(255, 296, 331, 89), (297, 326, 331, 89), (0, 76, 335, 91), (77, 110, 335, 91), (111, 136, 335, 91), (137, 162, 335, 91), (163, 198, 335, 91), (199, 230, 335, 91), (231, 254, 335, 91), (255, 296, 335, 91), (297, 326, 335, 91)]) (hxt.trans rfl) (kPass1 (t1 := 87) (by decide) rfl (hts (.classLink RL 87 "java/lang/IndexOutOfBoundsException") (by decide +kernel)) hNc.1) rfl (by decide) (hts (.classLink RL 89 "java/lang/IllegalArgumentException") (by decide +kernel)) (va_Nw.use rfl (hE.1 1)) hc1 hc2 hc3 (hx331 _ _ _ _ _ _ (Nat.le_of_ble_eq_true rfl) (Nat.le_of_ble_eq_true rfl) (lv_sub hl [0, 1, 2, 3] rfl) hP hS)
      · rw [hk] at hc3
        exact vx_catch hown (tableOf [(0, 76, 327, 87), (77, 110, 327, 87), (111, 136, 327, 87), (137, 162, 327, 87), (163, 198, 327, 87), (199, 230, 327, 87)]) ⟨231, 254, 327, 87⟩ (tableOf [(255, 296, 327, 87), (297, 326, 327, 87), (0, 76, 331, 89), (77, 110, 331, 89), (111, 136, 331, 89), (137, 162, 331, 89), (163, 198, 331, 89), (199, 230, 331, 89), (231, 254, 331, 89), (255, 296, 331, 89), (297, 326, 331, 89), (0, 76, 335, 91), (77, 110, 335, 91), (111, 136, 335, 91), (137, 162, 335, 91), (163, 198, 335, 91), (199, 230, 335, 91), (231, 254, 335, 91), (255, 296, 335, 91), (297, 326, 335, 91)]) (hxt.trans rfl) (kPass0 rfl) rfl (by decide) (hts (.classLink RL 87 "java/lang/IndexOutOfBoundsException") (by decide +kernel)) (va_Nw.use rfl (hE.1 2)) hc1 hc2 hc3 (hx327 _ _ _ _ _ _ (Nat.le_of_ble_eq_true rfl) (Nat.le_of_ble_eq_true rfl) (lv_sub hl [0, 1, 2, 3] rfl) hP hS)
      · rw [hk] at hc3
        exact vx_catch hown (tableOf [(0, 76, 327, 87), (77, 110, 327, 87), (111, 136, 327, 87), (137, 162, 327, 87), (163, 198, 327, 87), (199, 230, 327, 87), (231, 254, 327, 87), (255, 296, 327, 87), (297, 326, 327, 87), (0, 76, 331, 89), (77, 110, 331, 89), (111, 136, 331, 89), (137, 162, 331, 89), (163, 198, 331, 89), (199, 230, 331, 89), (231, 254, 331, 89), (255, 296, 331, 89), (297, 326, 331, 89), (0, 76, 335, 91), (77, 110, 335, 91), (111, 136, 335, 91), (137, 162, 335, 91), (163, 198, 335, 91), (199, 230, 335, 91)]) ⟨231, 254, 335, 91⟩ (tableOf [(255, 296, 335, 91), (297, 326, 335, 91)]) (hxt.trans rfl) (kPass2 (t1 := 87) (t2 := 89) (by decide) (by decide) rfl (hts (.classLink RL 87 "java/lang/IndexOutOfBoundsException") (by decide +kernel)) hNc.2.1 (hts (.classLink RL 89 "java/lang/IllegalArgumentException") (by decide +kernel)) hNc.2.2) rfl (by decide) (hts (.classLink RL 91 "java/lang/IllegalStateException") (by decide +kernel)) (va_Nw.use rfl (hE.1 3)) hc1 hc2 hc3 (hx335 _ _ _ _ _ _ (Nat.le_of_ble_eq_true rfl) (Nat.le_of_ble_eq_true rfl) (lv_sub hl [0, 1, 2, 3] rfl) hP hS)
    · skip
      refine lv_pop hx hb dL_act_252 rfl ?_
      refine lv_iconst (v := 0) hx hb dL_act_253 (by decide) ?_
      refine W.widen (k := 2) (n := 18) (Nat.le_of_ble_eq_true rfl) (Nat.le_of_ble_eq_true rfl) ?_
      exact W.iret (v := 0) hx hb hr0 (fun t ht hW => kJ_end (kAct0 g) hP hD hS ht) hS.2.2 dL_act_254
  have b255 : W p l e (headSpec wsL_act rm_L_act).room s m (([.ref s0, .int x, .int what, .int (nI K)] : List Value).toArray) below meth c s.heap [] 0 0 (MQ below (kJ dC dI (kAct cI cN s0 K f) w s.heap.size) (([.ref s0, .int x, .int what, .int (nI K)] : List Value).toArray) s 2 18 (va_A w s.heap.size)) (F0 m 255 ls []) := by
    refine lv_aload_n hx hb dL_act_255 rfl (lv_at hl 0 rfl) ?_
    refine lv_iconst (v := 5) hx hb dL_act_256 (by decide) ?_
    refine kCallJ (va_runV (As := [.int 5]) (rest := []) ⟨hx, hb, hml, hown, hts⟩ (c_search5 l hl9 dC dI cI cN hG _) (cwV 1 hts gL_act_X6_search rfl rfl rfl (by decide +kernel) ⟨Nat.le_of_ble_eq_true rfl, Nat.le_of_ble_eq_true rfl⟩) (kUE_V hP hK hD hN (kE_kept hE hS.2.1) hat) rfl rfl hl.1 rfl (lv_room (Nat.le_of_ble_eq_true rfl)) dL_act_257 ⟨Nat.zero_le _, Nat.zero_le _⟩) hP hD hS hA (fun r1 w1 H locs g hP hD hS => ?_)
    obtain ⟨er1, ewr1⟩ := g
    rw [ewr1] at hP hD
    subst er1
    refine lv_if_ne (tgt := 267) hx hb dL_act_260 (by decide) (fun c2 => ?_) (fun c2 => ?_)
    · skip
      refine lv_iconst (v := 0) hx hb dL_act_267 (by decide) ?_
      refine lv_istore (lv' := [(4, .int 0), (0, .ref s0), (1, .int x), (2, .int what), (3, .int (nI K))]) hx hb dL_act_268 hl (by decide) rfl (fun ls hl => ?_)
      refine lv_aload_n hx hb dL_act_270 rfl (lv_at hl 1 rfl) ?_
      refine lv_iconst (v := 1) hx hb dL_act_271 (by decide) ?_
      refine lv_iload_n hx hb dL_act_272 rfl (lv_at hl 2 rfl) ?_
      refine lv_bipush (v := 60) hx hb dL_act_273 (by decide) ?_
      refine kCallB (va_runS (As := [.int x, .int (nI 60)]) (rest := [.int 1, .ref s0]) ⟨hx, hb, hml, hown, hts⟩ (k_L_below l x 60 (by decide) (by decide)) (va_cwS 2 hts gL_act_L_below rfl rfl rfl (by decide +kernel) ⟨Nat.le_of_ble_eq_true rfl, Nat.le_of_ble_eq_true rfl⟩) ⟨fun a U g mk q => q, fun U _ _ => ⟨rfl, trivial⟩⟩ rfl rfl hl.1 rfl (lv_room (Nat.le_of_ble_eq_true rfl)) dL_act_275 ⟨Nat.zero_le _, Nat.zero_le _⟩) hP hS (fun j3 H locs hj3 hP hS => ?_)
      refine lv_iadd hx hb dL_act_278 ?_
      refine lv_topi (fun y4 ey4 => ?_)
      refine kCallJX (vx_runV (As := [.int y4]) (rest := []) ⟨hx, hb, hml, hown, hts⟩ (c_grow l hl9 dC dI cI cN hG y4 _) (cwV 1 hts gL_act_X6_grow rfl rfl rfl (by decide +kernel) ⟨Nat.le_of_ble_eq_true rfl, Nat.le_of_ble_eq_true rfl⟩) (kUE_V hP hK hD hN (kE_kept hE hS.2.1) hat) rfl rfl hl.1 rfl (lv_room (Nat.le_of_ble_eq_true rfl)) dL_act_279 ⟨Nat.le_of_ble_eq_true rfl, Nat.le_of_ble_eq_true rfl⟩) hP hD hS hA (fun k ce q9 H locs hP hS hc1 hc2 hc3 => ?_) (fun r5 w1 H locs g hP hD hS => ?_)
      · rcases kCls_or k with hk | hk | hk
        · rw [hk] at hc3
          exact vx_catch hown (tableOf [(0, 76, 327, 87), (77, 110, 327, 87), (111, 136, 327, 87), (137, 162, 327, 87), (163, 198, 327, 87), (199, 230, 327, 87), (231, 254, 327, 87), (255, 296, 327, 87), (297, 326, 327, 87), (0, 76, 331, 89), (77, 110, 331, 89), (111, 136, 331, 89), (137, 162, 331, 89), (163, 198, 331, 89), (199, 230, 331, 89), (231, 254, 331, 89)]) ⟨255, 296, 331, 89⟩ (tableOf [(297, 326, 331, 89), (0, 76, 335, 91), (77, 110, 335, 91), (111, 136, 335, 91), (137, 162, 335, 91), (163, 198, 335, 91), (199, 230, 335, 91), (231, 254, 335, 91), (255, 296, 335, 91), (297, 326, 335, 91)]) (hxt.trans rfl) (kPass1 (t1 := 87) (by decide) rfl (hts (.classLink RL 87 "java/lang/IndexOutOfBoundsException") (by decide +kernel)) hNc.1) rfl (by decide) (hts (.classLink RL 89 "java/lang/IllegalArgumentException") (by decide +kernel)) (va_Nw.use rfl (hE.1 1)) hc1 hc2 hc3 (hx331 _ _ _ _ _ _ (Nat.le_of_ble_eq_true rfl) (Nat.le_of_ble_eq_true rfl) (lv_sub hl [1, 2, 3, 4] rfl) hP hS)
        · rw [hk] at hc3
          exact vx_catch hown (tableOf [(0, 76, 327, 87), (77, 110, 327, 87), (111, 136, 327, 87), (137, 162, 327, 87), (163, 198, 327, 87), (199, 230, 327, 87), (231, 254, 327, 87)]) ⟨255, 296, 327, 87⟩ (tableOf [(297, 326, 327, 87), (0, 76, 331, 89), (77, 110, 331, 89), (111, 136, 331, 89), (137, 162, 331, 89), (163, 198, 331, 89), (199, 230, 331, 89), (231, 254, 331, 89), (255, 296, 331, 89), (297, 326, 331, 89), (0, 76, 335, 91), (77, 110, 335, 91), (111, 136, 335, 91), (137, 162, 335, 91), (163, 198, 335, 91), (199, 230, 335, 91), (231, 254, 335, 91), (255, 296, 335, 91), (297, 326, 335, 91)]) (hxt.trans rfl) (kPass0 rfl) rfl (by decide) (hts (.classLink RL 87 "java/lang/IndexOutOfBoundsException") (by decide +kernel)) (va_Nw.use rfl (hE.1 2)) hc1 hc2 hc3 (hx327 _ _ _ _ _ _ (Nat.le_of_ble_eq_true rfl) (Nat.le_of_ble_eq_true rfl) (lv_sub hl [1, 2, 3, 4] rfl) hP hS)
        · rw [hk] at hc3
          exact vx_catch hown (tableOf [(0, 76, 327, 87), (77, 110, 327, 87), (111, 136, 327, 87), (137, 162, 327, 87), (163, 198, 327, 87), (199, 230, 327, 87), (231, 254, 327, 87), (255, 296, 327, 87), (297, 326, 327, 87), (0, 76, 331, 89), (77, 110, 331, 89), (111, 136, 331, 89), (137, 162, 331, 89), (163, 198, 331, 89), (199, 230, 331, 89), (231, 254, 331, 89), (255, 296, 331, 89), (297, 326, 331, 89), (0, 76, 335, 91), (77, 110, 335, 91), (111, 136, 335, 91), (137, 162, 335, 91), (163, 198, 335, 91), (199, 230, 335, 91), (231, 254, 335, 91)]) ⟨255, 296, 335, 91⟩ (tableOf [(297, 326, 335, 91)]) (hxt.trans rfl) (kPass2 (t1 := 87) (t2 := 89) (by decide) (by decide) rfl (hts (.classLink RL 87 "java/lang/IndexOutOfBoundsException") (by decide +kernel)) hNc.2.1 (hts (.classLink RL 89 "java/lang/IllegalArgumentException") (by decide +kernel)) hNc.2.2) rfl (by decide) (hts (.classLink RL 91 "java/lang/IllegalStateException") (by decide +kernel)) (va_Nw.use rfl (hE.1 3)) hc1 hc2 hc3 (hx335 _ _ _ _ _ _ (Nat.le_of_ble_eq_true rfl) (Nat.le_of_ble_eq_true rfl) (lv_sub hl [1, 2, 3, 4] rfl) hP hS)
      · skip
        obtain ⟨f1, a1, hG1, g2⟩ := g
        refine lv_iconst (v := 2) hx hb dL_act_282 (by decide) ?_
        refine lv_icmp_ne (tgt := 295) hx hb dL_act_283 (by decide) (fun c6 => ?_) (fun c6 => ?_)
        · skip
          refine lv_iconst (v := 0) hx hb dL_act_295 (by decide) ?_
          refine W.widen (k := 2) (n := 18) (Nat.le_of_ble_eq_true rfl) (Nat.le_of_ble_eq_true rfl) ?_
          exact W.iret (v := 0) hx hb hr0 (fun t ht hW => kJ_end (kAct0 ⟨K, _, _, _, _, _, h3, hG1⟩) hP hD hS ht) hS.2.2 dL_act_296
        · skip
          refine lv_iload hx hb dL_act_286 (lv_at hl 0 rfl) ?_
          refine lv_if_eq (tgt := 295) hx hb dL_act_288 (by decide) (fun c7 => ?_) (fun c7 => ?_)
          · skip
            refine lv_iconst (v := 0) hx hb dL_act_295 (by decide) ?_
            refine W.widen (k := 2) (n := 18) (Nat.le_of_ble_eq_true rfl) (Nat.le_of_ble_eq_true rfl) ?_
            exact W.iret (v := 0) hx hb hr0 (fun t ht hW => kJ_end (kAct0 ⟨K, _, _, _, _, _, h3, hG1⟩) hP hD hS ht) hS.2.2 dL_act_296
          · skip
            refine lv_iconst (v := 2) hx hb dL_act_291 (by decide) ?_
            refine lv_goto (tgt := 296) hx hb dL_act_292 (by decide) ?_
            refine W.widen (k := 2) (n := 18) (Nat.le_of_ble_eq_true rfl) (Nat.le_of_ble_eq_true rfl) ?_
            exact W.iret (v := 2) hx hb hr0 (fun t ht hW => kJ_end (kAct2 h3 hG1 (g2 c6)) hP hD hS ht) hS.2.2 dL_act_296
    · skip
      refine lv_iconst (v := 1) hx hb dL_act_263 (by decide) ?_
      refine lv_goto (tgt := 268) hx hb dL_act_264 (by decide) ?_
      refine lv_istore (lv' := [(4, .int 1), (0, .ref s0), (1, .int x), (2, .int what), (3, .int (nI K))]) hx hb dL_act_268 hl (by decide) rfl (fun ls hl => ?_)
      refine lv_aload_n hx hb dL_act_270 rfl (lv_at hl 1 rfl) ?_
      refine lv_iconst (v := 1) hx hb dL_act_271 (by decide) ?_
      refine lv_iload_n hx hb dL_act_272 rfl (lv_at hl 2 rfl) ?_
      refine lv_bipush (v := 60) hx hb dL_act_273 (by decide) ?_
      refine kCallB (va_runS (As := [.int x, .int (nI 60)]) (rest := [.int 1, .ref s0]) ⟨hx, hb, hml, hown, hts⟩ (k_L_below l x 60 (by decide) (by decide)) (va_cwS 2 hts gL_act_L_below rfl rfl rfl (by decide +kernel) ⟨Nat.le_of_ble_eq_true rfl, Nat.le_of_ble_eq_true rfl⟩) ⟨fun a U g mk q => q, fun U _ _ => ⟨rfl, trivial⟩⟩ rfl rfl hl.1 rfl (lv_room (Nat.le_of_ble_eq_true rfl)) dL_act_275 ⟨Nat.zero_le _, Nat.zero_le _⟩) hP hS (fun j3 H locs hj3 hP hS => ?_)
      refine lv_iadd hx hb dL_act_278 ?_
      refine lv_topi (fun y4 ey4 => ?_)
      refine kCallJX (vx_runV (As := [.int y4]) (rest := []) ⟨hx, hb, hml, hown, hts⟩ (c_grow l hl9 dC dI cI cN hG y4 _) (cwV 1 hts gL_act_X6_grow rfl rfl rfl (by decide +kernel) ⟨Nat.le_of_ble_eq_true rfl, Nat.le_of_ble_eq_true rfl⟩) (kUE_V hP hK hD hN (kE_kept hE hS.2.1) hat) rfl rfl hl.1 rfl (lv_room (Nat.le_of_ble_eq_true rfl)) dL_act_279 ⟨Nat.le_of_ble_eq_true rfl, Nat.le_of_ble_eq_true rfl⟩) hP hD hS hA (fun k ce q9 H locs hP hS hc1 hc2 hc3 => ?_) (fun r5 w1 H locs g hP hD hS => ?_)
      · rcases kCls_or k with hk | hk | hk
        · rw [hk] at hc3
          exact vx_catch hown (tableOf [(0, 76, 327, 87), (77, 110, 327, 87), (111, 136, 327, 87), (137, 162, 327, 87), (163, 198, 327, 87), (199, 230, 327, 87), (231, 254, 327, 87), (255, 296, 327, 87), (297, 326, 327, 87), (0, 76, 331, 89), (77, 110, 331, 89), (111, 136, 331, 89), (137, 162, 331, 89), (163, 198, 331, 89), (199, 230, 331, 89), (231, 254, 331, 89)]) ⟨255, 296, 331, 89⟩ (tableOf [(297, 326, 331, 89), (0, 76, 335, 91), (77, 110, 335, 91), (111, 136, 335, 91), (137, 162, 335, 91), (163, 198, 335, 91), (199, 230, 335, 91), (231, 254, 335, 91), (255, 296, 335, 91), (297, 326, 335, 91)]) (hxt.trans rfl) (kPass1 (t1 := 87) (by decide) rfl (hts (.classLink RL 87 "java/lang/IndexOutOfBoundsException") (by decide +kernel)) hNc.1) rfl (by decide) (hts (.classLink RL 89 "java/lang/IllegalArgumentException") (by decide +kernel)) (va_Nw.use rfl (hE.1 1)) hc1 hc2 hc3 (hx331 _ _ _ _ _ _ (Nat.le_of_ble_eq_true rfl) (Nat.le_of_ble_eq_true rfl) (lv_sub hl [1, 2, 3, 4] rfl) hP hS)
        · rw [hk] at hc3
          exact vx_catch hown (tableOf [(0, 76, 327, 87), (77, 110, 327, 87), (111, 136, 327, 87), (137, 162, 327, 87), (163, 198, 327, 87), (199, 230, 327, 87), (231, 254, 327, 87)]) ⟨255, 296, 327, 87⟩ (tableOf [(297, 326, 327, 87), (0, 76, 331, 89), (77, 110, 331, 89), (111, 136, 331, 89), (137, 162, 331, 89), (163, 198, 331, 89), (199, 230, 331, 89), (231, 254, 331, 89), (255, 296, 331, 89), (297, 326, 331, 89), (0, 76, 335, 91), (77, 110, 335, 91), (111, 136, 335, 91), (137, 162, 335, 91), (163, 198, 335, 91), (199, 230, 335, 91), (231, 254, 335, 91), (255, 296, 335, 91), (297, 326, 335, 91)]) (hxt.trans rfl) (kPass0 rfl) rfl (by decide) (hts (.classLink RL 87 "java/lang/IndexOutOfBoundsException") (by decide +kernel)) (va_Nw.use rfl (hE.1 2)) hc1 hc2 hc3 (hx327 _ _ _ _ _ _ (Nat.le_of_ble_eq_true rfl) (Nat.le_of_ble_eq_true rfl) (lv_sub hl [1, 2, 3, 4] rfl) hP hS)
        · rw [hk] at hc3
          exact vx_catch hown (tableOf [(0, 76, 327, 87), (77, 110, 327, 87), (111, 136, 327, 87), (137, 162, 327, 87), (163, 198, 327, 87), (199, 230, 327, 87), (231, 254, 327, 87), (255, 296, 327, 87), (297, 326, 327, 87), (0, 76, 331, 89), (77, 110, 331, 89), (111, 136, 331, 89), (137, 162, 331, 89), (163, 198, 331, 89), (199, 230, 331, 89), (231, 254, 331, 89), (255, 296, 331, 89), (297, 326, 331, 89), (0, 76, 335, 91), (77, 110, 335, 91), (111, 136, 335, 91), (137, 162, 335, 91), (163, 198, 335, 91), (199, 230, 335, 91), (231, 254, 335, 91)]) ⟨255, 296, 335, 91⟩ (tableOf [(297, 326, 335, 91)]) (hxt.trans rfl) (kPass2 (t1 := 87) (t2 := 89) (by decide) (by decide) rfl (hts (.classLink RL 87 "java/lang/IndexOutOfBoundsException") (by decide +kernel)) hNc.2.1 (hts (.classLink RL 89 "java/lang/IllegalArgumentException") (by decide +kernel)) hNc.2.2) rfl (by decide) (hts (.classLink RL 91 "java/lang/IllegalStateException") (by decide +kernel)) (va_Nw.use rfl (hE.1 3)) hc1 hc2 hc3 (hx335 _ _ _ _ _ _ (Nat.le_of_ble_eq_true rfl) (Nat.le_of_ble_eq_true rfl) (lv_sub hl [1, 2, 3, 4] rfl) hP hS)
      · skip
        obtain ⟨f1, a1, hG1, g2⟩ := g
        refine lv_iconst (v := 2) hx hb dL_act_282 (by decide) ?_
        refine lv_icmp_ne (tgt := 295) hx hb dL_act_283 (by decide) (fun c6 => ?_) (fun c6 => ?_)
        · skip
          refine lv_iconst (v := 0) hx hb dL_act_295 (by decide) ?_
          refine W.widen (k := 2) (n := 18) (Nat.le_of_ble_eq_true rfl) (Nat.le_of_ble_eq_true rfl) ?_
          exact W.iret (v := 0) hx hb hr0 (fun t ht hW => kJ_end (kAct0 ⟨K, _, _, _, _, _, h3, hG1⟩) hP hD hS ht) hS.2.2 dL_act_296
        · skip
          refine lv_iload hx hb dL_act_286 (lv_at hl 0 rfl) ?_
          refine lv_if_eq (tgt := 295) hx hb dL_act_288 (by decide) (fun c7 => ?_) (fun c7 => ?_)
          · skip
            refine lv_iconst (v := 0) hx hb dL_act_295 (by decide) ?_
            refine W.widen (k := 2) (n := 18) (Nat.le_of_ble_eq_true rfl) (Nat.le_of_ble_eq_true rfl) ?_
            exact W.iret (v := 0) hx hb hr0 (fun t ht hW => kJ_end (kAct0 ⟨K, _, _, _, _, _, h3, hG1⟩) hP hD hS ht) hS.2.2 dL_act_296
          · skip
            refine lv_iconst (v := 2) hx hb dL_act_291 (by decide) ?_
            refine lv_goto (tgt := 296) hx hb dL_act_292 (by decide) ?_
            refine W.widen (k := 2) (n := 18) (Nat.le_of_ble_eq_true rfl) (Nat.le_of_ble_eq_true rfl) ?_
            exact W.iret (v := 2) hx hb hr0 (fun t ht hW => kJ_end (kAct2 h3 hG1 (g2 c6)) hP hD hS ht) hS.2.2 dL_act_296
  have b297 : W p l e (headSpec wsL_act rm_L_act).room s m (([.ref s0, .int x, .int what, .int (nI K)] : List Value).toArray) below meth c s.heap [] 0 0 (MQ below (kJ dC dI (kAct cI cN s0 K f) w s.heap.size) (([.ref s0, .int x, .int what, .int (nI K)] : List Value).toArray) s 2 18 (va_A w s.heap.size)) (F0 m 297 ls []) := by
    refine lv_iload_n hx hb dL_act_297 rfl (lv_at hl 1 rfl) ?_
    refine lv_iconst (v := 2) hx hb dL_act_298 (by decide) ?_
    refine kCallB (va_runS (As := [.int x, .int (nI 2)]) (rest := []) ⟨hx, hb, hml, hown, hts⟩ (k_L_below l x 2 (by decide) (by decide)) (va_cwS 2 hts gL_act_L_below rfl rfl rfl (by decide +kernel) ⟨Nat.le_of_ble_eq_true rfl, Nat.le_of_ble_eq_true rfl⟩) ⟨fun a U g mk q => q, fun U _ _ => ⟨rfl, trivial⟩⟩ rfl rfl hl.1 rfl (lv_room (Nat.le_of_ble_eq_true rfl)) dL_act_299 ⟨Nat.zero_le _, Nat.zero_le _⟩) hP hS (fun j1 H locs hj1 hP hS => ?_)
    refine lv_if_ne (tgt := 313) hx hb dL_act_302 (by decide) (fun c2 => ?_) (fun c2 => ?_)
    · skip
      refine lv_aload_n hx hb dL_act_313 rfl (lv_at hl 0 rfl) ?_
      refine lv_iload_n hx hb dL_act_314 rfl (lv_at hl 1 rfl) ?_
      refine lv_iconst (v := 2) hx hb dL_act_315 (by decide) ?_
      refine lv_ishr hx hb dL_act_316 ?_
      refine lv_topi (fun y3 _ => ?_)
      refine lv_iconst (v := 3) hx hb dL_act_317 (by decide) ?_
      refine kCallB (va_runS (As := [.int y3, .int (nI 3)]) (rest := [.ref s0]) ⟨hx, hb, hml, hown, hts⟩ (k_L_below l y3 3 (by decide) (by decide)) (va_cwS 2 hts gL_act_L_below rfl rfl rfl (by decide +kernel) ⟨Nat.le_of_ble_eq_true rfl, Nat.le_of_ble_eq_true rfl⟩) ⟨fun a U g mk q => q, fun U _ _ => ⟨rfl, trivial⟩⟩ rfl rfl hl.1 rfl (lv_room (Nat.le_of_ble_eq_true rfl)) dL_act_318 ⟨Nat.zero_le _, Nat.zero_le _⟩) hP hS (fun j4 H locs hj4 hP hS => ?_)
      refine kCallJX (vx_runV (As := [.int (nI j4)]) (rest := []) ⟨hx, hb, hml, hown, hts⟩ (c_back l hl9 dC dI cI cN hG (nI j4) _) (cwV 1 hts gL_act_X6_back rfl rfl rfl (by decide +kernel) ⟨Nat.le_of_ble_eq_true rfl, Nat.le_of_ble_eq_true rfl⟩) (kUE_V hP hK hD hN (kE_kept hE hS.2.1) hat) rfl rfl hl.1 rfl (lv_room (Nat.le_of_ble_eq_true rfl)) dL_act_321 ⟨Nat.le_of_ble_eq_true rfl, Nat.le_of_ble_eq_true rfl⟩) hP hD hS hA (fun k ce q9 H locs hP hS hc1 hc2 hc3 => ?_) (fun r5 w1 H locs g hP hD hS => ?_)
      · rcases kCls_or k with hk | hk | hk
        · rw [hk] at hc3
          exact vx_catch hown (tableOf [(0, 76, 327, 87), (77, 110, 327, 87), (111, 136, 327, 87), (137, 162, 327, 87), (163, 198, 327, 87), (199, 230, 327, 87), (231, 254, 327, 87), (255, 296, 327, 87), (297, 326, 327, 87), (0, 76, 331, 89), (77, 110, 331, 89), (111, 136, 331, 89), (137, 162, 331, 89), (163, 198, 331, 89), (199, 230, 331, 89), (231, 254, 331, 89), (255, 296, 331, 89)]) ⟨297, 326, 331, 89⟩ (tableOf [(0, 76, 335, 91), (77, 110, 335, 91), (111, 136, 335, 91), (137, 162, 335, 91), (163, 198, 335, 91), (199, 230, 335, 91), (231, 254, 335, 91), (255, 296, 335, 91), (297, 326, 335, 91)]) (hxt.trans rfl) (kPass1 (t1 := 87) (by decide) rfl (hts (.classLink RL 87 "java/lang/IndexOutOfBoundsException") (by decide +kernel)) hNc.1) rfl (by decide) (hts (.classLink RL 89 "java/lang/IllegalArgumentException") (by decide +kernel)) (va_Nw.use rfl (hE.1 1)) hc1 hc2 hc3 (hx331 _ _ _ _ _ _ (Nat.le_of_ble_eq_true rfl) (Nat.le_of_ble_eq_true rfl) (lv_sub hl [0, 1, 2, 3] rfl) hP hS)
        · rw [hk] at hc3
          exact vx_catch hown (tableOf [(0, 76, 327, 87), (77, 110, 327, 87), (111, 136, 327, 87), (137, 162, 327, 87), (163, 198, 327, 87), (199, 230, 327, 87), (231, 254, 327, 87), (255, 296, 327, 87)]) ⟨297, 326, 327, 87⟩ (tableOf [(0, 76, 331, 89), (77, 110, 331, 89), (111, 136, 331, 89), (137, 162, 331, 89), (163, 198, 331, 89), (199, 230, 331, 89), (231, 254, 331, 89), (255, 296, 331, 89), (297, 326, 331, 89), (0, 76, 335, 91), (77, 110, 335, 91), (111, 136, 335, 91), (137, 162, 335, 91), (163, 198, 335, 91), (199, 230, 335, 91), (231, 254, 335, 91), (255, 296, 335, 91), (297, 326, 335, 91)]) (hxt.trans rfl) (kPass0 rfl) rfl (by decide) (hts (.classLink RL 87 "java/lang/IndexOutOfBoundsException") (by decide +kernel)) (va_Nw.use rfl (hE.1 2)) hc1 hc2 hc3 (hx327 _ _ _ _ _ _ (Nat.le_of_ble_eq_true rfl) (Nat.le_of_ble_eq_true rfl) (lv_sub hl [0, 1, 2, 3] rfl) hP hS)
        · rw [hk] at hc3
          exact vx_catch hown (tableOf [(0, 76, 327, 87), (77, 110, 327, 87), (111, 136, 327, 87), (137, 162, 327, 87), (163, 198, 327, 87), (199, 230, 327, 87), (231, 254, 327, 87), (255, 296, 327, 87), (297, 326, 327, 87), (0, 76, 331, 89), (77, 110, 331, 89), (111, 136, 331, 89), (137, 162, 331, 89), (163, 198, 331, 89), (199, 230, 331, 89), (231, 254, 331, 89), (255, 296, 331, 89), (297, 326, 331, 89), (0, 76, 335, 91), (77, 110, 335, 91), (111, 136, 335, 91), (137, 162, 335, 91), (163, 198, 335, 91), (199, 230, 335, 91), (231, 254, 335, 91), (255, 296, 335, 91)]) ⟨297, 326, 335, 91⟩ (tableOf []) (hxt.trans rfl) (kPass2 (t1 := 87) (t2 := 89) (by decide) (by decide) rfl (hts (.classLink RL 87 "java/lang/IndexOutOfBoundsException") (by decide +kernel)) hNc.2.1 (hts (.classLink RL 89 "java/lang/IllegalArgumentException") (by decide +kernel)) hNc.2.2) rfl (by decide) (hts (.classLink RL 91 "java/lang/IllegalStateException") (by decide +kernel)) (va_Nw.use rfl (hE.1 3)) hc1 hc2 hc3 (hx335 _ _ _ _ _ _ (Nat.le_of_ble_eq_true rfl) (Nat.le_of_ble_eq_true rfl) (lv_sub hl [0, 1, 2, 3] rfl) hP hS)
      · skip
        refine lv_pop hx hb dL_act_324 rfl ?_
        refine lv_iconst (v := 0) hx hb dL_act_325 (by decide) ?_
        refine W.widen (k := 2) (n := 18) (Nat.le_of_ble_eq_true rfl) (Nat.le_of_ble_eq_true rfl) ?_
        exact W.iret (v := 0) hx hb hr0 (fun t ht hW => kJ_end (kAct0 g) hP hD hS ht) hS.2.2 dL_act_326
    · skip
      refine lv_aload_n hx hb dL_act_305 rfl (lv_at hl 0 rfl) ?_
      refine kCallJX (vx_runV (As := []) (rest := []) ⟨hx, hb, hml, hown, hts⟩ (c_keep l hl9 dC dI cI cN hG h3 _) (cwV 0 hts gL_act_X6_keep rfl rfl rfl (by decide +kernel) ⟨Nat.le_of_ble_eq_true rfl, Nat.le_of_ble_eq_true rfl⟩) (kUE_V hP hK hD hN (kE_kept hE hS.2.1) hat) rfl rfl hl.1 rfl (lv_room (Nat.le_of_ble_eq_true rfl)) dL_act_306 ⟨Nat.le_of_ble_eq_true rfl, Nat.le_of_ble_eq_true rfl⟩) hP hD hS hA (fun k ce q9 H locs hP hS hc1 hc2 hc3 => ?_) (fun r3 w1 H locs g hP hD hS => ?_)
      · rcases kCls_or k with hk | hk | hk
        · rw [hk] at hc3
          exact vx_catch hown (tableOf [(0, 76, 327, 87), (77, 110, 327, 87), (111, 136, 327, 87), (137, 162, 327, 87), (163, 198, 327, 87), (199, 230, 327, 87), (231, 254, 327, 87), (255, 296, 327, 87), (297, 326, 327, 87), (0, 76, 331, 89), (77, 110, 331, 89), (111, 136, 331, 89), (137, 162, 331, 89), (163, 198, 331, 89), (199, 230, 331, 89), (231, 254, 331, 89), (255, 296, 331, 89)]) ⟨297, 326, 331, 89⟩ (tableOf [(0, 76, 335, 91), (77, 110, 335, 91), (111, 136, 335, 91), (137, 162, 335, 91), (163, 198, 335, 91), (199, 230, 335, 91), (231, 254, 335, 91), (255, 296, 335, 91), (297, 326, 335, 91)]) (hxt.trans rfl) (kPass1 (t1 := 87) (by decide) rfl (hts (.classLink RL 87 "java/lang/IndexOutOfBoundsException") (by decide +kernel)) hNc.1) rfl (by decide) (hts (.classLink RL 89 "java/lang/IllegalArgumentException") (by decide +kernel)) (va_Nw.use rfl (hE.1 1)) hc1 hc2 hc3 (hx331 _ _ _ _ _ _ (Nat.le_of_ble_eq_true rfl) (Nat.le_of_ble_eq_true rfl) (lv_sub hl [0, 1, 2, 3] rfl) hP hS)
        · rw [hk] at hc3
          exact vx_catch hown (tableOf [(0, 76, 327, 87), (77, 110, 327, 87), (111, 136, 327, 87), (137, 162, 327, 87), (163, 198, 327, 87), (199, 230, 327, 87), (231, 254, 327, 87), (255, 296, 327, 87)]) ⟨297, 326, 327, 87⟩ (tableOf [(0, 76, 331, 89), (77, 110, 331, 89), (111, 136, 331, 89), (137, 162, 331, 89), (163, 198, 331, 89), (199, 230, 331, 89), (231, 254, 331, 89), (255, 296, 331, 89), (297, 326, 331, 89), (0, 76, 335, 91), (77, 110, 335, 91), (111, 136, 335, 91), (137, 162, 335, 91), (163, 198, 335, 91), (199, 230, 335, 91), (231, 254, 335, 91), (255, 296, 335, 91), (297, 326, 335, 91)]) (hxt.trans rfl) (kPass0 rfl) rfl (by decide) (hts (.classLink RL 87 "java/lang/IndexOutOfBoundsException") (by decide +kernel)) (va_Nw.use rfl (hE.1 2)) hc1 hc2 hc3 (hx327 _ _ _ _ _ _ (Nat.le_of_ble_eq_true rfl) (Nat.le_of_ble_eq_true rfl) (lv_sub hl [0, 1, 2, 3] rfl) hP hS)
        · rw [hk] at hc3
          exact vx_catch hown (tableOf [(0, 76, 327, 87), (77, 110, 327, 87), (111, 136, 327, 87), (137, 162, 327, 87), (163, 198, 327, 87), (199, 230, 327, 87), (231, 254, 327, 87), (255, 296, 327, 87), (297, 326, 327, 87), (0, 76, 331, 89), (77, 110, 331, 89), (111, 136, 331, 89), (137, 162, 331, 89), (163, 198, 331, 89), (199, 230, 331, 89), (231, 254, 331, 89), (255, 296, 331, 89), (297, 326, 331, 89), (0, 76, 335, 91), (77, 110, 335, 91), (111, 136, 335, 91), (137, 162, 335, 91), (163, 198, 335, 91), (199, 230, 335, 91), (231, 254, 335, 91), (255, 296, 335, 91)]) ⟨297, 326, 335, 91⟩ (tableOf []) (hxt.trans rfl) (kPass2 (t1 := 87) (t2 := 89) (by decide) (by decide) rfl (hts (.classLink RL 87 "java/lang/IndexOutOfBoundsException") (by decide +kernel)) hNc.2.1 (hts (.classLink RL 89 "java/lang/IllegalArgumentException") (by decide +kernel)) hNc.2.2) rfl (by decide) (hts (.classLink RL 91 "java/lang/IllegalStateException") (by decide +kernel)) (va_Nw.use rfl (hE.1 3)) hc1 hc2 hc3 (hx335 _ _ _ _ _ _ (Nat.le_of_ble_eq_true rfl) (Nat.le_of_ble_eq_true rfl) (lv_sub hl [0, 1, 2, 3] rfl) hP hS)
      · skip
        refine lv_pop hx hb dL_act_309 rfl ?_
        refine lv_goto (tgt := 325) hx hb dL_act_310 (by decide) ?_
        refine lv_iconst (v := 0) hx hb dL_act_325 (by decide) ?_
        refine W.widen (k := 2) (n := 18) (Nat.le_of_ble_eq_true rfl) (Nat.le_of_ble_eq_true rfl) ?_
        exact W.iret (v := 0) hx hb hr0 (fun t ht hW => kJ_end (kAct0 g) hP hD hS ht) hS.2.2 dL_act_326
  refine lv_iload_n hx hb dL_act_0 rfl (lv_at hl 2 rfl) ?_
  by_cases c0 : what = (0 : Int32)
  · exact lv_tableIn (off := 59) (tgt := 60) hx hb dL_act_1 (by rw [c0]; decide) (by rw [c0]; decide) (by rw [c0]; decide) (by decide) b60
  by_cases c1 : what = (1 : Int32)
  · exact lv_tableIn (off := 76) (tgt := 77) hx hb dL_act_1 (by rw [c1]; decide) (by rw [c1]; decide) (by rw [c1]; decide) (by decide) b77
  by_cases c2 : what = (2 : Int32)
  · exact lv_tableIn (off := 76) (tgt := 77) hx hb dL_act_1 (by rw [c2]; decide) (by rw [c2]; decide) (by rw [c2]; decide) (by decide) b77
  by_cases c3 : what = (3 : Int32)
  · exact lv_tableIn (off := 76) (tgt := 77) hx hb dL_act_1 (by rw [c3]; decide) (by rw [c3]; decide) (by rw [c3]; decide) (by decide) b77
  by_cases c4 : what = (4 : Int32)
  · exact lv_tableIn (off := 110) (tgt := 111) hx hb dL_act_1 (by rw [c4]; decide) (by rw [c4]; decide) (by rw [c4]; decide) (by decide) b111
  by_cases c5 : what = (5 : Int32)
  · exact lv_tableIn (off := 136) (tgt := 137) hx hb dL_act_1 (by rw [c5]; decide) (by rw [c5]; decide) (by rw [c5]; decide) (by decide) b137
  by_cases c6 : what = (6 : Int32)
  · exact lv_tableIn (off := 162) (tgt := 163) hx hb dL_act_1 (by rw [c6]; decide) (by rw [c6]; decide) (by rw [c6]; decide) (by decide) b163
  by_cases c7 : what = (7 : Int32)
  · exact lv_tableIn (off := 198) (tgt := 199) hx hb dL_act_1 (by rw [c7]; decide) (by rw [c7]; decide) (by rw [c7]; decide) (by decide) b199
  by_cases c8 : what = (8 : Int32)
  · exact lv_tableIn (off := 230) (tgt := 231) hx hb dL_act_1 (by rw [c8]; decide) (by rw [c8]; decide) (by rw [c8]; decide) (by decide) b231
  by_cases c9 : what = (9 : Int32)
  · exact lv_tableIn (off := 254) (tgt := 255) hx hb dL_act_1 (by rw [c9]; decide) (by rw [c9]; decide) (by rw [c9]; decide) (by decide) b255
  by_cases c10 : what = (10 : Int32)
  · exact lv_tableIn (off := 254) (tgt := 255) hx hb dL_act_1 (by rw [c10]; decide) (by rw [c10]; decide) (by rw [c10]; decide) (by decide) b255
  exact lv_tableOut (tgt := 297) hx hb dL_act_1 (by have z0 := lv_neT c0 (show (0 : Int32).toInt = 0 from by decide); have z1 := lv_neT c1 (show (1 : Int32).toInt = 1 from by decide); have z2 := lv_neT c2 (show (2 : Int32).toInt = 2 from by decide); have z3 := lv_neT c3 (show (3 : Int32).toInt = 3 from by decide); have z4 := lv_neT c4 (show (4 : Int32).toInt = 4 from by decide); have z5 := lv_neT c5 (show (5 : Int32).toInt = 5 from by decide); have z6 := lv_neT c6 (show (6 : Int32).toInt = 6 from by decide); have z7 := lv_neT c7 (show (7 : Int32).toInt = 7 from by decide); have z8 := lv_neT c8 (show (8 : Int32).toInt = 8 from by decide); have z9 := lv_neT c9 (show (9 : Int32).toInt = 9 from by decide); have z10 := lv_neT c10 (show (10 : Int32).toInt = 10 from by decide); omega) (by decide) b297

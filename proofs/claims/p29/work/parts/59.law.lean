/-! the law's walk (printed by wip/gen/law_law.py) -/
def kLX (p : Program) (l : Launch) (s : State) (m : MethodId) (c : Code) (b L : Nat) (xs : Nat → Int32) (dC : Nat → ClassId) (dI : Nat → Nat → Nat) (cI cN cP : ClassId) : Prop :=
  p.tables.exec = Jvm.exec ∧ c.code = code ∧ c.maxLocals = 14 ∧ s.vm.findClass RL = some m.cls ∧ (∀ w ∈ wsL_law, w.before #[Value.ref b] s = true) ∧ va_X b L xs s s.heap ∧ b < s.heap.size ∧ L ≤ 260 ∧ va_K (dC, dI) kCl (kT cI cN) s ∧ kN s ∧ kE (fun q => s.heap.size ≤ q) s s.heap ∧ kNc s ∧ l.stackTraces = false ∧ kPA s cP ∧ s.vm.findClass "[I" = some cI
section LAW
variable {p : Program} {l : Launch} {e : Env} {s : State} {m : MethodId} {below : List Frame} {meth : Method} {c : Code} {b L : Nat} {xs : Nat → Int32} {dC : Nat → ClassId} {dI : Nat → Nat → Nat} {cI cN cP : ClassId} {Q : State → Prop}
variable {s0 pr K : Nat} {f : Nat → Int32} {isOn cnt len sta : Int32} {w Y : va_W} {H : Heap} {locs : List Loc} {cells slots : Nat} {ls : Array Slot}
theorem kCallJ0 {R : Room} {args : Array Value} {pc : Nat} {rest st0 : List Value} {A0 : Nat → Prop} {H0 : Heap} {a : Array Value} {Post : Int32 → va_W → Prop} (hr : va_Run p l e R s m args below meth c H locs cells slots 0 0 (F0 m pc ls st0) rest (kJ dC dI Post w H.size a) (va_A w H.size)) (hP : va_P (dC, dI) kCl (w ++ Y) H) (hD : va_D A0 (w ++ Y)) (hS : va_S A0 H0 H locs) (hA : ∀ q : Nat, H0.size ≤ q → A0 q)
    (kk : ∀ (r : Int32) (w' : va_W) (H1 : Heap) (locs1 : List Loc), Post r w' → va_P (dC, dI) kCl (w' ++ Y) H1 → va_D A0 (w' ++ Y) → va_S A0 H0 H1 locs1 → W p l e R s m args below meth c H1 locs1 cells slots Q (F0 m (pc + 3) ls (.int r :: rest))) : W p l e R s m args below meth c H locs cells slots Q (F0 m pc ls st0) := kCallJ hr hP hD hS hA kk
theorem kCallJl0 {R : Room} {args : Array Value} {pc : Nat} {rest st0 : List Value} {A0 : Nat → Prop} {H0 : Heap} {a : Array Value} {Post : Int64 → va_W → Prop} (hr : va_Run p l e R s m args below meth c H locs cells slots 0 0 (F0 m pc ls st0) rest (kJl dC dI Post w H.size a) (va_A w H.size)) (hP : va_P (dC, dI) kCl (w ++ Y) H) (hD : va_D A0 (w ++ Y)) (hS : va_S A0 H0 H locs) (hA : ∀ q : Nat, H0.size ≤ q → A0 q)
    (kk : ∀ (r : Int64) (w' : va_W) (H1 : Heap) (locs1 : List Loc), Post r w' → va_P (dC, dI) kCl (w' ++ Y) H1 → va_D A0 (w' ++ Y) → va_S A0 H0 H1 locs1 → W p l e R s m args below meth c H1 locs1 cells slots Q (F0 m (pc + 3) ls (.long r :: rest))) : W p l e R s m args below meth c H locs cells slots Q (F0 m pc ls st0) := kCallJl hr hP hD hS hA kk
set_option maxHeartbeats 8000000 in
set_option maxRecDepth 100000 in
theorem law_A (hC : kLX p l s m c b L xs dC dI cI cN cP) (hG : kG cI cN s0 K f isOn cnt len sta w) {t n : Nat} (ht : t < 40) (hP : va_P (dC, dI) kCl (w ++ Y) H) (hD : va_D (fun q : Nat => s.heap.size ≤ q) (w ++ Y)) (hS : va_S (fun q : Nat => s.heap.size ≤ q) s.heap H locs) (hc : cells + 10 ≤ 600130) (hs : slots + 100 ≤ 7301080) (hl : lv_has ls 14 [(4, .int (nI t)), (0, .ref b), (1, .ref s0), (2, .ref pr), (3, .int (nI n))])
    (kk : ∀ (x : Int32) (cf : Nat → Int32) (q8 : Nat) (H : Heap) (locs : List Loc) (ls : Array Slot), (∀ k, k < K → cf k = nI (dg f k)) → va_P (dC, dI) kCl (w ++ (Y ++ [(q8, .inl (cI, K, .inl cf))])) H → va_D (fun q : Nat => s.heap.size ≤ q) (w ++ (Y ++ [(q8, .inl (cI, K, .inl cf))])) → va_S (fun q : Nat => s.heap.size ≤ q) s.heap H locs → lv_has ls 14 [(8, .ref q8), (7, .int (P_leastRing K f)), (6, .int (nI K)), (5, .int x), (4, .int (nI t)), (0, .ref b), (1, .ref s0), (2, .ref pr), (3, .int (nI n))] → W p l e room_1 s m #[Value.ref b] below meth c H locs (cells + 1) (slots + K) Q (F0 m 108 ls [])) : W p l e room_1 s m #[Value.ref b] below meth c H locs cells slots Q (F0 m 43 ls []) := by
  obtain ⟨hx, hb, hml, hown, hts, hX, hbl, hL, hK, hN, hE, hNc, hl9, hPA, hfI⟩ := hC
  obtain ⟨fs0, hat⟩ := kG_at hG
  have hN0 := kG_net hG
  have hK16 : K ≤ 16 := hN0.1.1
  refine lv_aload_n hx hb dL_law_43 rfl (lv_at hl 1 rfl) ?_
  refine lv_iload hx hb dL_law_44 (lv_at hl 0 rfl) ?_
  refine lv_bipush (v := 16) hx hb dL_law_46 (by decide) ?_
  refine lv_irem hx hb dL_law_48 (by decide) ?_
  refine kRen (y := nI (t % 16)) (pk_rem (a := t) (d := 16) (by omega) (by decide) (by decide)) ?_
  refine kCallA (va_runS (As := [.ref b, .int (nI (t % 16))]) (rest := []) ⟨hx, hb, hml, hown, hts⟩ (k_L_cell l b L xs (t % 16) (by omega) (by omega)) (va_cwS 2 hts gL_law_L_cell rfl rfl rfl (by decide +kernel) ⟨Nat.le_of_ble_eq_true rfl, Nat.le_of_ble_eq_true rfl⟩) ⟨fun a U g mk q => ⟨q.1, va_X.moved (u := U) (U := U.calling g mk a) (Vm.Alike.refl U.vm) q.2⟩, fun U hU hW => ⟨rfl, by show va_X b L xs U U.heap; rw [hU]; exact va_X.moved hW.alike (hX.kept (hS.2.1 b hbl (Nat.not_le.mpr hbl)))⟩⟩ rfl rfl hl.1 rfl (lv_room (Nat.le_of_ble_eq_true rfl)) dL_law_49 ⟨by show cells + 0 ≤ 600130; omega, by show slots + 0 ≤ 7301080; omega⟩) hP hS (fun x0 H locs hP hS => ?_)
  refine lv_bipush (v := 79) hx hb dL_law_52 (by decide) ?_
  refine lv_iload hx hb dL_law_54 (lv_at hl 0 rfl) ?_
  refine lv_imul hx hb dL_law_56 ?_
  refine lv_iadd hx hb dL_law_57 ?_
  refine lv_topi (fun x ex => ?_)
  refine lv_istore (lv' := [(5, .int x), (4, .int (nI t)), (0, .ref b), (1, .ref s0), (2, .ref pr), (3, .int (nI n))]) hx hb dL_law_58 hl (by decide) rfl (fun ls hl => ?_)
  refine lv_aload_n hx hb dL_law_60 rfl (lv_at hl 3 rfl) ?_
  refine lv_iconst (v := 0) hx hb dL_law_61 (by decide) ?_
  refine kCallJ0 (va_runV (As := [.int 0]) (rest := []) ⟨hx, hb, hml, hown, hts⟩ (c_now0 l hl9 dC dI cI cN hG _) (cwV 1 hts gL_law_X6_now rfl rfl rfl (by decide +kernel) ⟨Nat.le_of_ble_eq_true rfl, Nat.le_of_ble_eq_true rfl⟩) (kUE_V hP hK hD hN (kE_kept hE hS.2.1) hat) rfl rfl hl.1 rfl (lv_room (Nat.le_of_ble_eq_true rfl)) dL_law_62 ⟨by show cells + 0 ≤ 600130; omega, by show slots + 0 ≤ 7301080; omega⟩) hP hD hS (fun _ h => h) (fun r w1 H locs g hP hD hS => ?_)
  obtain ⟨er, ew⟩ := g
  rw [ew] at hP hD
  subst er
  refine lv_istore (lv' := [(6, .int (nI K)), (5, .int x), (4, .int (nI t)), (0, .ref b), (1, .ref s0), (2, .ref pr), (3, .int (nI n))]) hx hb dL_law_65 hl (by decide) rfl (fun ls hl => ?_)
  refine lv_aload_n hx hb dL_law_67 rfl (lv_at hl 4 rfl) ?_
  refine lv_iconst (v := 3) hx hb dL_law_68 (by decide) ?_
  refine kCallJ0 (va_runV (As := [.int 3]) (rest := []) ⟨hx, hb, hml, hown, hts⟩ (c_now3 l hl9 dC dI cI cN hG _) (cwV 1 hts gL_law_X6_now rfl rfl rfl (by decide +kernel) ⟨Nat.le_of_ble_eq_true rfl, Nat.le_of_ble_eq_true rfl⟩) (kUE_V hP hK hD hN (kE_kept hE hS.2.1) hat) rfl rfl hl.1 rfl (lv_room (Nat.le_of_ble_eq_true rfl)) dL_law_69 ⟨by show cells + 0 ≤ 600130; omega, by show slots + 0 ≤ 7301080; omega⟩) hP hD hS (fun _ h => h) (fun r w1 H locs g hP hD hS => ?_)
  obtain ⟨er, ew⟩ := g
  rw [ew] at hP hD
  subst er
  refine lv_istore (lv' := [(7, .int (P_leastRing K f)), (6, .int (nI K)), (5, .int x), (4, .int (nI t)), (0, .ref b), (1, .ref s0), (2, .ref pr), (3, .int (nI n))]) hx hb dL_law_72 hl (by decide) rfl (fun ls hl => ?_)
  refine lv_iload hx hb dL_law_74 (lv_at hl 1 rfl) ?_
  refine va_newa (atype := .int) (n := nI K) (N' := K) (a0 := (K, .inl (fun _ => 0))) hx hb (hts (.arrayClass .int) (by decide +kernel)) rfl hK hP hD hS (fun _ h => h) (fun _ => rfl) (nI_pos (by omega)) (nI_clamp (by omega)) (by show K * 4 ≤ _; omega) (by show cells + 1 ≤ 600130; omega) (by show slots + K ≤ 7301080; omega) dL_law_76 (fun q8 cA H hKA hP hD hS => ?_)
  obtain ecA : cA = cI := kSameI hKA
  subst ecA
  rw [List.append_assoc] at hP hD
  refine lv_astore (lv' := [(8, .ref q8), (7, .int (P_leastRing K f)), (6, .int (nI K)), (5, .int x), (4, .int (nI t)), (0, .ref b), (1, .ref s0), (2, .ref pr), (3, .int (nI n))]) hx hb dL_law_78 hl (by decide) rfl (fun ls hl => ?_)
  refine lv_iconst (v := 0) hx hb dL_law_80 (by decide) ?_
  refine lv_istore (lv' := [(9, .int 0), (8, .ref q8), (7, .int (P_leastRing K f)), (6, .int (nI K)), (5, .int x), (4, .int (nI t)), (0, .ref b), (1, .ref s0), (2, .ref pr), (3, .int (nI n))]) hx hb dL_law_81 hl (by decide) rfl (fun ls hl => ?_)
  have lp : ∀ (z i : Nat) (cf : Nat → Int32) (H : Heap) (locs : List Loc) (ls : Array Slot), z + i = K → (∀ k, k < i → cf k = nI (dg f k)) → va_P (dC, dI) kCl (w ++ (Y ++ [(q8, .inl (cA, K, .inl cf))])) H → va_D (fun q : Nat => s.heap.size ≤ q) (w ++ (Y ++ [(q8, .inl (cA, K, .inl cf))])) → va_S (fun q : Nat => s.heap.size ≤ q) s.heap H locs → lv_has ls 14 [(9, .int (nI i)), (8, .ref q8), (7, .int (P_leastRing K f)), (6, .int (nI K)), (5, .int x), (4, .int (nI t)), (0, .ref b), (1, .ref s0), (2, .ref pr), (3, .int (nI n))] → W p l e room_1 s m #[Value.ref b] below meth c H locs (cells + 1) (slots + K) Q (F0 m 83 ls []) := by
    intro z
    induction z with
    | zero =>
      intro i cf H locs ls hi hcf hP hD hS hl
      refine lv_iload hx hb dL_law_83 (lv_at hl 0 rfl) ?_
      refine lv_iload hx hb dL_law_85 (lv_at hl 3 rfl) ?_
      refine lv_icmp_ge (tgt := 108) hx hb dL_law_87 (by decide) (fun c1 => ?_) (fun c1 => ?_)
      · exact kk x cf q8 H locs ls (fun k hk => hcf k (by omega)) hP hD hS (lv_sub hl [1, 2, 3, 4, 5, 6, 7, 8, 9] rfl)
      · exact absurd (kTop (x := nI K) rfl (show i = K by omega)) c1
    | succ z ih =>
      intro i cf H locs ls hi hcf hP hD hS hl
      refine lv_iload hx hb dL_law_83 (lv_at hl 0 rfl) ?_
      refine lv_iload hx hb dL_law_85 (lv_at hl 3 rfl) ?_
      refine lv_icmp_ge (tgt := 108) hx hb dL_law_87 (by decide) (fun c1 => ?_) (fun c1 => ?_)
      · exact absurd c1 (kLow (x := nI K) (N := K) rfl (by omega) (by omega))
      · skip
        refine lv_aload hx hb dL_law_90 (lv_at hl 1 rfl) ?_
        refine lv_iload hx hb dL_law_92 (lv_at hl 0 rfl) ?_
        refine lv_aload_n hx hb dL_law_94 rfl (lv_at hl 7 rfl) ?_
        refine lv_iload hx hb dL_law_95 (lv_at hl 0 rfl) ?_
        refine lv_iconst (v := 0) hx hb dL_law_97 (by decide) ?_
        refine kCallJ0 (va_runV (As := [.int (nI i), .int 0]) (rest := [.int (nI i), .ref q8]) ⟨hx, hb, hml, hown, hts⟩ (c_ofKnot0 l hl9 dC dI cA cN hG i (by omega) _) (cwV 2 hts gL_law_X6_ofKnot rfl rfl rfl (by decide +kernel) ⟨Nat.le_of_ble_eq_true rfl, Nat.le_of_ble_eq_true rfl⟩) (kUE_V hP hK hD hN (kE_kept hE hS.2.1) hat) rfl rfl hl.1 rfl (lv_room (Nat.le_of_ble_eq_true rfl)) dL_law_98 ⟨by show cells + 1 + 0 ≤ 600130; omega, by show slots + K + 0 ≤ 7301080; omega⟩) hP hD hS (fun _ h => h) (fun r w1 H locs g hP hD hS => ?_)
        obtain ⟨er, ew⟩ := g
        rw [ew] at hP hD
        subst er
        refine va_iast hx hb (hK.sub [0, 1] rfl) hP hD hS (w.length + Y.length) 0 kAtE rfl (vp_in_nI (by omega) (by omega)) dL_law_101 (fun H locs hP hD hS => ?_)
        rw [kSetE, show (nI i).toNatClampNeg = i from nI_clamp (by omega)] at hP hD
        refine lv_iinc (v := nI (i + 1)) (lv' := [(9, .int (nI (i + 1))), (8, .ref q8), (7, .int (P_leastRing K f)), (6, .int (nI K)), (5, .int x), (4, .int (nI t)), (0, .ref b), (1, .ref s0), (2, .ref pr), (3, .int (nI n))]) hx hb dL_law_102 hl (k := 0) rfl (nI_1 _) (by decide) rfl (fun ls hl => ?_)
        refine lv_goto (tgt := 83) hx hb dL_law_105 (by decide) ?_
        refine ih (i + 1) (upd cf i (nI (dg f i))) H locs ls (by omega) (fun k hk => ?_) hP hD hS (lv_sub hl [0, 1, 2, 3, 4, 5, 6, 7, 8, 9] rfl)
        unfold upd
        by_cases ek : k = i
        · rw [if_pos ek, ek]
        · rw [if_neg ek]
          exact hcf k (by omega)
  exact lp K 0 _ _ _ _ (by omega) (fun k hk => by omega) hP hD hS (lv_sub hl [0, 1, 2, 3, 4, 5, 6, 7, 8, 9] rfl)
set_option maxHeartbeats 8000000 in
set_option maxRecDepth 100000 in
theorem law_B (hC : kLX p l s m c b L xs dC dI cI cN cP) (hG : kG cI cN s0 K f isOn cnt len sta w) (h3 : 3 ≤ K) {t n q8 : Nat} {x : Int32} (hP : va_P (dC, dI) kCl (w ++ Y) H) (hD : va_D (fun q : Nat => s.heap.size ≤ q) (w ++ Y)) (hS : va_S (fun q : Nat => s.heap.size ≤ q) s.heap H locs) (hc : cells + 10 ≤ 600130) (hs : slots + 100 ≤ 7301080) (hl : lv_has ls 14 [(8, .ref q8), (7, .int (P_leastRing K f)), (6, .int (nI K)), (5, .int x), (4, .int (nI t)), (0, .ref b), (1, .ref s0), (2, .ref pr), (3, .int (nI n))])
    (kk : ∀ (r : Int32) (w1 : va_W) (H : Heap) (locs : List Loc) (ls : Array Slot), kAct cI cN s0 K f r w1 → va_P (dC, dI) kCl (w1 ++ Y) H → va_D (fun q : Nat => s.heap.size ≤ q) (w1 ++ Y) → va_S (fun q : Nat => s.heap.size ≤ q) s.heap H locs → lv_has ls 14 [(9, .int r), (8, .ref q8), (7, .int (P_leastRing K f)), (6, .int (nI K)), (5, .int x), (4, .int (nI t)), (0, .ref b), (1, .ref s0), (2, .ref pr), (3, .int (nI n))] → W p l e room_1 s m #[Value.ref b] below meth c H locs (cells + 2) (slots + 18) Q (F0 m 127 ls [])) : W p l e room_1 s m #[Value.ref b] below meth c H locs cells slots Q (F0 m 108 ls []) := by
  obtain ⟨hx, hb, hml, hown, hts, hX, hbl, hL, hK, hN, hE, hNc, hl9, hPA, hfI⟩ := hC
  obtain ⟨fs0, hat⟩ := kG_at hG
  have hN0 := kG_net hG
  refine lv_aload_n hx hb dL_law_108 rfl (lv_at hl 6 rfl) ?_
  refine lv_iload hx hb dL_law_109 (lv_at hl 3 rfl) ?_
  refine lv_iconst (v := 2) hx hb dL_law_111 (by decide) ?_
  refine lv_ishr hx hb dL_law_112 ?_
  refine lv_topi (fun y1 _ => ?_)
  refine lv_iload hx hb dL_law_113 (lv_at hl 3 rfl) ?_
  refine lv_bipush (v := 12) hx hb dL_law_115 (by decide) ?_
  refine kCallB (va_runS (As := [.int x, .int (nI 12)]) (rest := [.int y1, .ref s0]) ⟨hx, hb, hml, hown, hts⟩ (k_L_below l x 12 (by decide) (by decide)) (va_cwS 2 hts gL_law_L_below rfl rfl rfl (by decide +kernel) ⟨Nat.le_of_ble_eq_true rfl, Nat.le_of_ble_eq_true rfl⟩) ⟨fun a U g mk q => q, fun U _ _ => ⟨rfl, trivial⟩⟩ rfl rfl hl.1 rfl (lv_room (Nat.le_of_ble_eq_true rfl)) dL_law_117 ⟨by show cells + 0 ≤ 600130; omega, by show slots + 0 ≤ 7301080; omega⟩) hP hS (fun j H locs hj hP hS => ?_)
  refine lv_iload hx hb dL_law_120 (lv_at hl 2 rfl) ?_
  refine kCallJN (vx_runSX (As := [.ref s0, .int y1, .int (nI j), .int (nI K)]) (rest := []) ⟨hx, hb, hml, hown, hts⟩ (k_L_act l hl9 dC dI cI cN hG h3 y1 (nI j) _) (vx_cwSW 4 hts gL_law_L_act rfl rfl rfl (by decide +kernel) ⟨Nat.le_of_ble_eq_true rfl, Nat.le_of_ble_eq_true rfl⟩) (kUA_S hP hK hD hN (kE_narrow (kE_kept hE hS.2.1) (kFreeW hD hS (fun _ h => h))) hNc) rfl rfl hl.1 rfl (lv_room (Nat.le_of_ble_eq_true rfl)) dL_law_122 ⟨by show cells + 2 ≤ 600130; omega, by show slots + 18 ≤ 7301080; omega⟩) hP hD hS (fun _ h => h) (fun r w1 H locs g hP hD hS => ?_)
  refine lv_istore (lv' := [(9, .int r), (8, .ref q8), (7, .int (P_leastRing K f)), (6, .int (nI K)), (5, .int x), (4, .int (nI t)), (0, .ref b), (1, .ref s0), (2, .ref pr), (3, .int (nI n))]) hx hb dL_law_125 hl (by decide) rfl (fun ls hl => ?_)
  exact kk r w1 H locs ls g hP hD hS hl
set_option maxHeartbeats 8000000 in
set_option maxRecDepth 100000 in
theorem law_C (hC : kLX p l s m c b L xs dC dI cI cN cP) (hG : kG cI cN s0 K f isOn cnt len sta w) {t n q8 K0 : Nat} {x r l7 : Int32} {pf : Nat → Option Nat} {rs : List kRo} {z8 : Nat × va_E} (hpr : kPr pf rs n) (hn : n < 40) (h2 : r = 2 → K = K0 ∧ isOn = 1 ∧ ∃ (k L : Nat), cnt = nI k ∧ len = nI L ∧ 2 ≤ k ∧ k ≤ 5 ∧ 3 ≤ L ∧ L ≤ 8 ∧ ∀ G, ¬ Valid K0 k L G) (hP : va_P (dC, dI) kCl (w ++ (kY cI cP pr pf rs ++ [z8])) H) (hD : va_D (fun q : Nat => s.heap.size ≤ q) (w ++ (kY cI cP pr pf rs ++ [z8]))) (hS : va_S (fun q : Nat => s.heap.size ≤ q) s.heap H locs) (hc : cells + 10 ≤ 600130) (hs : slots + 100 ≤ 7301080) (hl : lv_has ls 14 [(9, .int r), (8, .ref q8), (7, .int l7), (6, .int (nI K0)), (5, .int x), (4, .int (nI t)), (0, .ref b), (1, .ref s0), (2, .ref pr), (3, .int (nI n))])
    (kk : ∀ (n1 : Nat) (pf1 : Nat → Option Nat) (rs1 : List kRo) (cells1 slots1 : Nat) (H : Heap) (locs : List Loc) (ls : Array Slot), n1 ≤ n + 1 → kPr pf1 rs1 n1 → cells1 ≤ cells + 1 → slots1 ≤ slots + 3 → va_P (dC, dI) kCl (w ++ (kY cI cP pr pf1 rs1 ++ [z8])) H → va_D (fun q : Nat => s.heap.size ≤ q) (w ++ (kY cI cP pr pf1 rs1 ++ [z8])) → va_S (fun q : Nat => s.heap.size ≤ q) s.heap H locs → lv_has ls 14 [(3, .int (nI n1)), (9, .int r), (8, .ref q8), (7, .int l7), (6, .int (nI K0)), (5, .int x), (4, .int (nI t)), (0, .ref b), (1, .ref s0), (2, .ref pr)] → W p l e room_1 s m #[Value.ref b] below meth c H locs cells1 slots1 Q (F0 m 163 ls [])) : W p l e room_1 s m #[Value.ref b] below meth c H locs cells slots Q (F0 m 127 ls []) := by
  obtain ⟨hx, hb, hml, hown, hts, hX, hbl, hL, hK, hN, hE, hNc, hl9, hPA, hfI⟩ := hC
  obtain ⟨fs0, hat⟩ := kG_at hG
  have hN0 := kG_net hG
  refine lv_iload hx hb dL_law_127 (lv_at hl 0 rfl) ?_
  refine lv_iconst (v := 2) hx hb dL_law_129 (by decide) ?_
  refine lv_icmp_ne (tgt := 163) hx hb dL_law_130 (by decide) (fun c1 => ?_) (fun c1 => ?_)
  · exact kk n pf rs cells slots H locs ls (by omega) hpr (by omega) (by omega) hP hD hS (lv_sub hl [9, 0, 1, 2, 3, 4, 5, 6, 7, 8] rfl)
  · obtain ⟨eK, hon, k, L9, ek, eL, k2, k5, g3, g8, no⟩ := h2 c1
    refine lv_aload_n hx hb dL_law_133 rfl (lv_at hl 8 rfl) ?_
    refine lv_iload_n hx hb dL_law_134 rfl (lv_at hl 9 rfl) ?_
    refine lv_iinc (v := nI (n + 1)) (lv' := [(3, .int (nI (n + 1))), (9, .int r), (8, .ref q8), (7, .int l7), (6, .int (nI K0)), (5, .int x), (4, .int (nI t)), (0, .ref b), (1, .ref s0), (2, .ref pr)]) hx hb dL_law_135 hl (k := 9) rfl (nI_1 _) (by decide) rfl (fun ls hl => ?_)
    refine lv_iconst (v := 3) hx hb dL_law_138 (by decide) ?_
    refine va_newa (atype := .int) (n := 3) (N' := 3) (a0 := (3, .inl (fun _ => 0))) hx hb (hts (.arrayClass .int) (by decide +kernel)) rfl hK hP hD hS (fun _ h => h) (fun _ => rfl) (by decide) (by decide) (Nat.le_of_ble_eq_true rfl) (by show cells + 1 ≤ 600130; omega) (by show slots + 3 ≤ 7301080; omega) dL_law_139 (fun q9 cA H hKA hP hD hS => ?_)
    obtain ecA : cA = cI := kSameI hKA
    subst ecA
    rw [List.append_assoc] at hP hD
    refine lv_dup hx hb dL_law_141 rfl ?_
    refine lv_iconst (v := 0) hx hb dL_law_142 (by decide) ?_
    refine lv_iload hx hb dL_law_143 (lv_at hl 4 rfl) ?_
    refine va_iast hx hb (hK.sub [0, 1] rfl) hP hD hS (w.length + (kY cA cP pr pf rs ++ [z8]).length) 0 kAtE rfl (vp_in_nI (n := 0) (N := 3) (by decide) (by decide)) dL_law_145 (fun H locs hP hD hS => ?_)
    rw [kSetE] at hP hD
    refine lv_dup hx hb dL_law_146 rfl ?_
    refine lv_iconst (v := 1) hx hb dL_law_147 (by decide) ?_
    refine lv_aload_n hx hb dL_law_148 rfl (lv_at hl 8 rfl) ?_
    refine lv_iconst (v := 0) hx hb dL_law_149 (by decide) ?_
    refine kCallJ0 (va_runV (As := [.int 0]) (rest := [.int 1, .ref q9, .ref q9, .int (nI n), .ref pr]) ⟨hx, hb, hml, hown, hts⟩ (c_search0 l hl9 dC dI cA cN hG hon _) (cwV 1 hts gL_law_X6_search rfl rfl rfl (by decide +kernel) ⟨Nat.le_of_ble_eq_true rfl, Nat.le_of_ble_eq_true rfl⟩) (kUE_V hP hK hD hN (kE_kept hE hS.2.1) hat) rfl rfl hl.1 rfl (lv_room (Nat.le_of_ble_eq_true rfl)) dL_law_150 ⟨by show cells + 1 + 0 ≤ 600130; omega, by show slots + 3 + 0 ≤ 7301080; omega⟩) hP hD hS (fun _ h => h) (fun cnt w1 H locs g hP hD hS => ?_)
    obtain ⟨er, ew⟩ := g
    rw [ew] at hP hD
    subst er
    refine va_iast hx hb (hK.sub [0, 1] rfl) hP hD hS (w.length + (kY cA cP pr pf rs ++ [z8]).length) 0 kAtE rfl (vp_in_nI (n := 1) (N := 3) (by decide) (by decide)) dL_law_153 (fun H locs hP hD hS => ?_)
    rw [kSetE] at hP hD
    refine lv_dup hx hb dL_law_154 rfl ?_
    refine lv_iconst (v := 2) hx hb dL_law_155 (by decide) ?_
    refine lv_aload_n hx hb dL_law_156 rfl (lv_at hl 8 rfl) ?_
    refine lv_iconst (v := 1) hx hb dL_law_157 (by decide) ?_
    refine kCallJ0 (va_runV (As := [.int 1]) (rest := [.int 2, .ref q9, .ref q9, .int (nI n), .ref pr]) ⟨hx, hb, hml, hown, hts⟩ (c_search1 l hl9 dC dI cA cN hG hon _) (cwV 1 hts gL_law_X6_search rfl rfl rfl (by decide +kernel) ⟨Nat.le_of_ble_eq_true rfl, Nat.le_of_ble_eq_true rfl⟩) (kUE_V hP hK hD hN (kE_kept hE hS.2.1) hat) rfl rfl hl.1 rfl (lv_room (Nat.le_of_ble_eq_true rfl)) dL_law_158 ⟨by show cells + 1 + 0 ≤ 600130; omega, by show slots + 3 + 0 ≤ 7301080; omega⟩) hP hD hS (fun _ h => h) (fun len w1 H locs g hP hD hS => ?_)
    obtain ⟨er, ew⟩ := g
    rw [ew] at hP hD
    subst er
    refine va_iast hx hb (hK.sub [0, 1] rfl) hP hD hS (w.length + (kY cA cP pr pf rs ++ [z8]).length) 0 kAtE rfl (vp_in_nI (n := 2) (N := 3) (by decide) (by decide)) dL_law_161 (fun H locs hP hD hS => ?_)
    rw [kSetE] at hP hD
    obtain ⟨g9, eg9⟩ : ∃ g : Nat → Int32, g = (upd (upd (upd (fun _ => 0) (nI 0).toNatClampNeg (nI K0)) (nI 1).toNatClampNeg cnt) (nI 2).toNatClampNeg len) := ⟨_, rfl⟩
    have hP : va_P (dC, dI) kCl (w ++ ((kY cA cP pr pf rs ++ [z8]) ++ [(q9, .inl (cA, 3, .inl g9))])) H := by rw [eg9]; exact hP
    have hD : va_D (fun q : Nat => s.heap.size ≤ q) (w ++ ((kY cA cP pr pf rs ++ [z8]) ++ [(q9, .inl (cA, 3, .inl g9))])) := by rw [eg9]; exact hD
    refine kStAA hx hb hPA hfI hP hD hS (w.length + 0) (w.length + (kY cA cP pr pf rs ++ [z8]).length) (kAtY rfl) kAtE (vp_in_nI (by omega) (by omega)) dL_law_162 (fun H locs hP hD hS => ?_)
    rw [kSetY, show (nI n).toNatClampNeg = n from nI_clamp (by omega)] at hP hD
    have hpm : List.Perm (α := Nat × va_E) (w ++ ((kY cA cP pr (va_up pf n (some q9)) rs ++ [z8]) ++ [(q9, .inl (cA, 3, .inl g9))])) (w ++ (kY cA cP pr (va_up pf n (some q9)) (rs ++ [(q9, g9)]) ++ [z8])) := by
      refine List.Perm.append_left _ ?_
      show ((pr, _) :: ((kRows cA rs ++ [z8]) ++ [(q9, _)])).Perm ((pr, _) :: (kRows cA (rs ++ [(q9, g9)]) ++ [z8]))
      refine List.Perm.cons _ ?_
      rw [kRows_app, List.append_assoc, List.append_assoc]
      exact List.Perm.append_left _ List.perm_append_comm
    exact kk (n + 1) (va_up pf n (some q9)) (rs ++ [(q9, g9)]) _ _ H locs ls (Nat.le_refl _) (kPr_add hpr (K := K0) (c := k) (L := L9) (by rw [← eK]; exact hN0.1.1) k2 k5 g3 g8 (by rw [eg9]; rfl) (by rw [eg9]; exact ek) (by rw [eg9]; exact eL) no) (Nat.le_refl _) (Nat.le_refl _) (kPermP hpm hP) (kPermD hpm hD) hS hl
set_option maxHeartbeats 8000000 in
set_option maxRecDepth 100000 in
theorem law_D (hC : kLX p l s m c b L xs dC dI cI cN cP) (hG : kG cI cN s0 K f isOn cnt len sta w) {t n q8 K0 : Nat} {x r : Int32} {f0 cf : Nat → Int32} (hK0 : 3 ≤ K0) (hcf : ∀ k, k < K0 → cf k = nI (dg f0 k)) (h7 : r = 7 → K = 2 * K0 ∧ (∀ u, u < 2 * K0 → dg f u = dg f0 (u % K0)) ∧ (P_leastRing (2 * K0) f = -1 ∨ ∃ l m, 3 ≤ l ∧ l ≤ m ∧ m ≤ 16 ∧ P_leastRing K0 f0 = nI l ∧ P_leastRing (2 * K0) f = nI m)) (hP : va_P (dC, dI) kCl (w ++ (Y ++ [(q8, .inl (cI, K0, .inl cf))])) H) (hD : va_D (fun q : Nat => s.heap.size ≤ q) (w ++ (Y ++ [(q8, .inl (cI, K0, .inl cf))]))) (hS : va_S (fun q : Nat => s.heap.size ≤ q) s.heap H locs) (hc : cells + 10 ≤ 600130) (hs : slots + 100 ≤ 7301080) (hl : lv_has ls 14 [(3, .int (nI n)), (9, .int r), (8, .ref q8), (7, .int (P_leastRing K0 f0)), (6, .int (nI K0)), (5, .int x), (4, .int (nI t)), (0, .ref b), (1, .ref s0), (2, .ref pr)])
    (kk : ∀ (H : Heap) (locs : List Loc) (ls : Array Slot), va_P (dC, dI) kCl (w ++ Y) H → va_D (fun q : Nat => s.heap.size ≤ q) (w ++ Y) → va_S (fun q : Nat => s.heap.size ≤ q) s.heap H locs → lv_has ls 14 [(3, .int (nI n)), (6, .int (nI K0)), (4, .int (nI t)), (0, .ref b), (1, .ref s0), (2, .ref pr)] → W p l e room_1 s m #[Value.ref b] below meth c H locs cells slots Q (F0 m 245 ls [])) : W p l e room_1 s m #[Value.ref b] below meth c H locs cells slots Q (F0 m 163 ls []) := by
  obtain ⟨hx, hb, hml, hown, hts, hX, hbl, hL, hK, hN, hE, hNc, hl9, hPA, hfI⟩ := hC
  obtain ⟨fs0, hat⟩ := kG_at hG
  have hN0 := kG_net hG
  have hK16 : K ≤ 16 := hN0.1.1
  have done : ∀ (H : Heap) (locs : List Loc) (ls : Array Slot), va_P (dC, dI) kCl (w ++ (Y ++ [(q8, .inl (cI, K0, .inl cf))])) H → va_D (fun q : Nat => s.heap.size ≤ q) (w ++ (Y ++ [(q8, .inl (cI, K0, .inl cf))])) → va_S (fun q : Nat => s.heap.size ≤ q) s.heap H locs → lv_has ls 14 [(3, .int (nI n)), (6, .int (nI K0)), (4, .int (nI t)), (0, .ref b), (1, .ref s0), (2, .ref pr)] → W p l e room_1 s m #[Value.ref b] below meth c H locs cells slots Q (F0 m 245 ls []) := fun H locs ls hP hD hS hl => kk H locs ls (kLeftP (b := [(q8, .inl (cI, K0, .inl cf))]) (by rw [List.append_assoc]; exact hP)) (kLeftD (b := [(q8, .inl (cI, K0, .inl cf))]) (by rw [List.append_assoc]; exact hD)) hS hl
  refine lv_iload hx hb dL_law_163 (lv_at hl 1 rfl) ?_
  refine lv_bipush (v := 7) hx hb dL_law_165 (by decide) ?_
  refine lv_icmp_ne (tgt := 245) hx hb dL_law_167 (by decide) (fun c1 => ?_) (fun c1 => ?_)
  · exact done H locs ls hP hD hS (lv_sub hl [0, 4, 6, 7, 8, 9] rfl)
  · obtain ⟨e2, hdg, hle⟩ := h7 c1
    subst e2
    refine lv_aload_n hx hb dL_law_170 rfl (lv_at hl 8 rfl) ?_
    refine lv_iconst (v := 0) hx hb dL_law_171 (by decide) ?_
    refine kCallJ0 (va_runV (As := [.int 0]) (rest := []) ⟨hx, hb, hml, hown, hts⟩ (c_now0 l hl9 dC dI cI cN hG _) (cwV 1 hts gL_law_X6_now rfl rfl rfl (by decide +kernel) ⟨Nat.le_of_ble_eq_true rfl, Nat.le_of_ble_eq_true rfl⟩) (kUE_V hP hK hD hN (kE_kept hE hS.2.1) hat) rfl rfl hl.1 rfl (lv_room (Nat.le_of_ble_eq_true rfl)) dL_law_172 ⟨by show cells + 0 ≤ 600130; omega, by show slots + 0 ≤ 7301080; omega⟩) hP hD hS (fun _ h => h) (fun r w1 H locs g hP hD hS => ?_)
    obtain ⟨er, ew⟩ := g
    rw [ew] at hP hD
    subst er
    refine lv_iconst (v := 2) hx hb dL_law_175 (by decide) ?_
    refine lv_iload hx hb dL_law_176 (lv_at hl 4 rfl) ?_
    refine lv_imul hx hb dL_law_178 ?_
    refine kRen (y := nI (2 * K0)) (pk_mul 2 K0) ?_
    refine lv_icmp_ne (tgt := 205) hx hb dL_law_179 (by decide) (fun c2 => absurd rfl c2) (fun c2 => ?_)
    have lp : ∀ (z i : Nat) (H : Heap) (locs : List Loc) (ls : Array Slot), z + i = 2 * K0 → va_P (dC, dI) kCl (w ++ (Y ++ [(q8, .inl (cI, K0, .inl cf))])) H → va_D (fun q : Nat => s.heap.size ≤ q) (w ++ (Y ++ [(q8, .inl (cI, K0, .inl cf))])) → va_S (fun q : Nat => s.heap.size ≤ q) s.heap H locs → lv_has ls 14 [(10, .int (nI i)), (3, .int (nI n)), (8, .ref q8), (6, .int (nI K0)), (4, .int (nI t)), (0, .ref b), (1, .ref s0), (2, .ref pr)] → W p l e room_1 s m #[Value.ref b] below meth c H locs cells slots Q (F0 m 210 ls []) := by
      intro z
      induction z with
      | zero =>
        intro i H locs ls hi hP hD hS hl
        refine lv_iload hx hb dL_law_210 (lv_at hl 0 rfl) ?_
        refine lv_iconst (v := 2) hx hb dL_law_212 (by decide) ?_
        refine lv_iload hx hb dL_law_213 (lv_at hl 3 rfl) ?_
        refine lv_imul hx hb dL_law_215 ?_
        refine kRen (y := nI (2 * K0)) (pk_mul 2 K0) ?_
        refine lv_icmp_ge (tgt := 245) hx hb dL_law_216 (by decide) (fun c3 => ?_) (fun c3 => ?_)
        · exact done H locs ls hP hD hS (lv_sub hl [1, 3, 4, 5, 6, 7] rfl)
        · exact absurd (kTop (x := nI (2 * K0)) rfl (show i = 2 * K0 by omega)) c3
      | succ z ih =>
        intro i H locs ls hi hP hD hS hl
        refine lv_iload hx hb dL_law_210 (lv_at hl 0 rfl) ?_
        refine lv_iconst (v := 2) hx hb dL_law_212 (by decide) ?_
        refine lv_iload hx hb dL_law_213 (lv_at hl 3 rfl) ?_
        refine lv_imul hx hb dL_law_215 ?_
        refine kRen (y := nI (2 * K0)) (pk_mul 2 K0) ?_
        refine lv_icmp_ge (tgt := 245) hx hb dL_law_216 (by decide) (fun c3 => ?_) (fun c3 => ?_)
        · exact absurd c3 (kLow (x := nI (2 * K0)) (N := 2 * K0) rfl (by omega) (by omega))
        · skip
          refine lv_aload_n hx hb dL_law_219 rfl (lv_at hl 6 rfl) ?_
          refine lv_iload hx hb dL_law_220 (lv_at hl 0 rfl) ?_
          refine lv_iconst (v := 0) hx hb dL_law_222 (by decide) ?_
          refine kCallJ0 (va_runV (As := [.int (nI i), .int 0]) (rest := []) ⟨hx, hb, hml, hown, hts⟩ (c_ofKnot0 l hl9 dC dI cI cN hG i (by omega) _) (cwV 2 hts gL_law_X6_ofKnot rfl rfl rfl (by decide +kernel) ⟨Nat.le_of_ble_eq_true rfl, Nat.le_of_ble_eq_true rfl⟩) (kUE_V hP hK hD hN (kE_kept hE hS.2.1) hat) rfl rfl hl.1 rfl (lv_room (Nat.le_of_ble_eq_true rfl)) dL_law_223 ⟨by show cells + 0 ≤ 600130; omega, by show slots + 0 ≤ 7301080; omega⟩) hP hD hS (fun _ h => h) (fun r w1 H locs g hP hD hS => ?_)
          obtain ⟨er, ew⟩ := g
          rw [ew] at hP hD
          subst er
          refine lv_aload hx hb dL_law_226 (lv_at hl 2 rfl) ?_
          refine lv_iload hx hb dL_law_228 (lv_at hl 0 rfl) ?_
          refine lv_iload hx hb dL_law_230 (lv_at hl 3 rfl) ?_
          refine lv_irem hx hb dL_law_232 (nI_ne0 (by omega) (by omega)) ?_
          refine kRen (y := nI (i % K0)) (pk_rem (by omega) (by omega) (by omega)) ?_
          have hm : i % K0 < K0 := Nat.mod_lt _ (by omega)
          refine va_iald hx hb (hK.sub [0, 1] rfl) hP (w.length + Y.length) 0 kAtE rfl (vp_in_nI hm (by omega)) dL_law_233 ?_
          refine kRen (y := nI (dg f i)) (by rw [nI_clamp (show i % K0 < 2 ^ 31 by omega), hcf _ hm, hdg i (by omega)]) ?_
          refine lv_icmp_eq (tgt := 239) hx hb dL_law_234 (by decide) (fun c4 => ?_) (fun c4 => absurd rfl c4)
          refine lv_iinc (v := nI (i + 1)) (lv' := [(10, .int (nI (i + 1))), (3, .int (nI n)), (8, .ref q8), (6, .int (nI K0)), (4, .int (nI t)), (0, .ref b), (1, .ref s0), (2, .ref pr)]) hx hb dL_law_239 hl (k := 0) rfl (nI_1 _) (by decide) rfl (fun ls hl => ?_)
          refine lv_goto (tgt := 210) hx hb dL_law_242 (by decide) ?_
          exact ih (i + 1) H locs ls (by omega) hP hD hS (lv_sub hl [0, 1, 2, 3, 4, 5, 6, 7] rfl)
    have go : ∀ (H : Heap) (locs : List Loc), va_P (dC, dI) kCl (w ++ (Y ++ [(q8, .inl (cI, K0, .inl cf))])) H → va_D (fun q : Nat => s.heap.size ≤ q) (w ++ (Y ++ [(q8, .inl (cI, K0, .inl cf))])) → va_S (fun q : Nat => s.heap.size ≤ q) s.heap H locs → W p l e room_1 s m #[Value.ref b] below meth c H locs cells slots Q (F0 m 207 ls []) := by
      intro H locs hP hD hS
      refine lv_iconst (v := 0) hx hb dL_law_207 (by decide) ?_
      refine lv_istore (lv' := [(10, .int 0), (3, .int (nI n)), (9, .int r), (8, .ref q8), (7, .int (P_leastRing K0 f0)), (6, .int (nI K0)), (5, .int x), (4, .int (nI t)), (0, .ref b), (1, .ref s0), (2, .ref pr)]) hx hb dL_law_208 hl (by decide) rfl (fun ls hl => ?_)
      exact lp (2 * K0) 0 H locs ls (by omega) hP hD hS (lv_sub hl [0, 1, 3, 5, 7, 8, 9, 10] rfl)
    refine lv_aload_n hx hb dL_law_182 rfl (lv_at hl 8 rfl) ?_
    refine lv_iconst (v := 3) hx hb dL_law_183 (by decide) ?_
    refine kCallJ0 (va_runV (As := [.int 3]) (rest := []) ⟨hx, hb, hml, hown, hts⟩ (c_now3 l hl9 dC dI cI cN hG _) (cwV 1 hts gL_law_X6_now rfl rfl rfl (by decide +kernel) ⟨Nat.le_of_ble_eq_true rfl, Nat.le_of_ble_eq_true rfl⟩) (kUE_V hP hK hD hN (kE_kept hE hS.2.1) hat) rfl rfl hl.1 rfl (lv_room (Nat.le_of_ble_eq_true rfl)) dL_law_184 ⟨by show cells + 0 ≤ 600130; omega, by show slots + 0 ≤ 7301080; omega⟩) hP hD hS (fun _ h => h) (fun r w1 H locs g hP hD hS => ?_)
    obtain ⟨er, ew⟩ := g
    rw [ew] at hP hD
    subst er
    rcases hle with hle | ⟨l9, m9, a1, a2, a3, a4, a5⟩
    · refine lv_if_lt (tgt := 207) hx hb dL_law_187 (by decide) (fun _ => go H locs hP hD hS) (fun c5 => absurd (by rw [hle]; decide) c5)
    · refine lv_if_lt (tgt := 207) hx hb dL_law_187 (by decide) (fun _ => go H locs hP hD hS) (fun c5 => ?_)
      refine lv_iload hx hb dL_law_190 (lv_at hl 3 rfl) ?_
      refine lv_if_lt (tgt := 205) hx hb dL_law_192 (by decide) (fun c6 => absurd (by rw [a4] at c6; exact c6) (nI_pos (n := l9) (by omega))) (fun c6 => ?_)
      refine lv_aload_n hx hb dL_law_195 rfl (lv_at hl 8 rfl) ?_
      refine lv_iconst (v := 3) hx hb dL_law_196 (by decide) ?_
      refine kCallJ0 (va_runV (As := [.int 3]) (rest := []) ⟨hx, hb, hml, hown, hts⟩ (c_now3 l hl9 dC dI cI cN hG _) (cwV 1 hts gL_law_X6_now rfl rfl rfl (by decide +kernel) ⟨Nat.le_of_ble_eq_true rfl, Nat.le_of_ble_eq_true rfl⟩) (kUE_V hP hK hD hN (kE_kept hE hS.2.1) hat) rfl rfl hl.1 rfl (lv_room (Nat.le_of_ble_eq_true rfl)) dL_law_197 ⟨by show cells + 0 ≤ 600130; omega, by show slots + 0 ≤ 7301080; omega⟩) hP hD hS (fun _ h => h) (fun r w1 H locs g hP hD hS => ?_)
      obtain ⟨er, ew⟩ := g
      rw [ew] at hP hD
      subst er
      refine lv_iload hx hb dL_law_200 (lv_at hl 3 rfl) ?_
      refine lv_icmp_ge (tgt := 207) hx hb dL_law_202 (by decide) (fun _ => go H locs hP hD hS) (fun c7 => absurd (by rw [a4, a5]; exact nI_le a2 (by omega)) c7)
set_option maxHeartbeats 8000000 in
set_option maxRecDepth 100000 in
theorem law_E (hC : kLX p l s m c b L xs dC dI cI cN cP) (hG : kG cI cN s0 K f isOn cnt len sta w) {t n K0 : Nat} {pf : Nat → Option Nat} {rs : List kRo} (hpr : kPr pf rs n) (hn : n ≤ 40) (hP : va_P (dC, dI) kCl (w ++ kY cI cP pr pf rs) H) (hD : va_D (fun q : Nat => s.heap.size ≤ q) (w ++ kY cI cP pr pf rs)) (hS : va_S (fun q : Nat => s.heap.size ≤ q) s.heap H locs) (hc : cells + 10 ≤ 600130) (hs : slots + 100 ≤ 7301080) (hl : lv_has ls 14 [(3, .int (nI n)), (6, .int (nI K0)), (4, .int (nI t)), (0, .ref b), (1, .ref s0), (2, .ref pr)])
    (kk : ∀ (H : Heap) (locs : List Loc) (ls : Array Slot), va_P (dC, dI) kCl (w ++ kY cI cP pr pf rs) H → va_D (fun q : Nat => s.heap.size ≤ q) (w ++ kY cI cP pr pf rs) → va_S (fun q : Nat => s.heap.size ≤ q) s.heap H locs → lv_has ls 14 [(3, .int (nI n)), (4, .int (nI t)), (0, .ref b), (1, .ref s0), (2, .ref pr)] → W p l e room_1 s m #[Value.ref b] below meth c H locs cells slots Q (F0 m 349 ls [])) : W p l e room_1 s m #[Value.ref b] below meth c H locs cells slots Q (F0 m 245 ls []) := by
  obtain ⟨hx, hb, hml, hown, hts, hX, hbl, hL, hK, hN, hE, hNc, hl9, hPA, hfI⟩ := hC
  obtain ⟨fs0, hat⟩ := kG_at hG
  have hN0 := kG_net hG
  have hK16 : K ≤ 16 := hN0.1.1
  refine lv_aload_n hx hb dL_law_245 rfl (lv_at hl 4 rfl) ?_
  refine lv_iconst (v := 4) hx hb dL_law_246 (by decide) ?_
  refine kCallJ0 (va_runV (As := [.int 4]) (rest := []) ⟨hx, hb, hml, hown, hts⟩ (c_now4 l hl9 dC dI cI cN hG _) (cwV 1 hts gL_law_X6_now rfl rfl rfl (by decide +kernel) ⟨Nat.le_of_ble_eq_true rfl, Nat.le_of_ble_eq_true rfl⟩) (kUE_V hP hK hD hN (kE_kept hE hS.2.1) hat) rfl rfl hl.1 rfl (lv_room (Nat.le_of_ble_eq_true rfl)) dL_law_247 ⟨by show cells + 0 ≤ 600130; omega, by show slots + 0 ≤ 7301080; omega⟩) hP hD hS (fun _ h => h) (fun r w1 H locs g hP hD hS => ?_)
  obtain ⟨er, ew⟩ := g
  rw [ew] at hP hD
  subst er
  refine lv_istore (lv' := [(10, .int (P_evenCount K f)), (3, .int (nI n)), (6, .int (nI K0)), (4, .int (nI t)), (0, .ref b), (1, .ref s0), (2, .ref pr)]) hx hb dL_law_250 hl (by decide) rfl (fun ls hl => ?_)
  refine lv_aload_n hx hb dL_law_252 rfl (lv_at hl 5 rfl) ?_
  refine lv_iconst (v := 3) hx hb dL_law_253 (by decide) ?_
  refine kCallJ0 (va_runV (As := [.int 3]) (rest := []) ⟨hx, hb, hml, hown, hts⟩ (c_now3 l hl9 dC dI cI cN hG _) (cwV 1 hts gL_law_X6_now rfl rfl rfl (by decide +kernel) ⟨Nat.le_of_ble_eq_true rfl, Nat.le_of_ble_eq_true rfl⟩) (kUE_V hP hK hD hN (kE_kept hE hS.2.1) hat) rfl rfl hl.1 rfl (lv_room (Nat.le_of_ble_eq_true rfl)) dL_law_254 ⟨by show cells + 0 ≤ 600130; omega, by show slots + 0 ≤ 7301080; omega⟩) hP hD hS (fun _ h => h) (fun r w1 H locs g hP hD hS => ?_)
  obtain ⟨er, ew⟩ := g
  rw [ew] at hP hD
  subst er
  refine lv_istore (lv' := [(11, .int (P_leastRing K f)), (10, .int (P_evenCount K f)), (3, .int (nI n)), (6, .int (nI K0)), (4, .int (nI t)), (0, .ref b), (1, .ref s0), (2, .ref pr)]) hx hb dL_law_257 hl (by decide) rfl (fun ls hl => ?_)
  refine lv_iload hx hb dL_law_259 (lv_at hl 1 rfl) ?_
  refine lv_iconst (v := 2) hx hb dL_law_261 (by decide) ?_
  refine lv_icmp_lt (tgt := 349) hx hb dL_law_262 (by decide) (fun _ => kk H locs ls hP hD hS (lv_sub hl [2, 4, 5, 6, 7] rfl)) (fun c1 => ?_)
  refine lv_iload hx hb dL_law_265 (lv_at hl 0 rfl) ?_
  refine lv_iconst (v := 3) hx hb dL_law_267 (by decide) ?_
  refine lv_icmp_lt (tgt := 349) hx hb dL_law_268 (by decide) (fun _ => kk H locs ls hP hD hS (lv_sub hl [2, 4, 5, 6, 7] rfl)) (fun c2 => ?_)
  refine lv_iload hx hb dL_law_271 (lv_at hl 0 rfl) ?_
  refine lv_bipush (v := 8) hx hb dL_law_273 (by decide) ?_
  refine lv_icmp_gt (tgt := 349) hx hb dL_law_275 (by decide) (fun _ => kk H locs ls hP hD hS (lv_sub hl [2, 4, 5, 6, 7] rfl)) (fun c3 => ?_)
  obtain ⟨ec, eL, d1, d2, d3, d4, d5, d6, d7, V⟩ := even_valid hN0 c1 c2 c3
  refine lv_aload_n hx hb dL_law_278 rfl (lv_at hl 6 rfl) ?_
  refine lv_iconst (v := 0) hx hb dL_law_279 (by decide) ?_
  refine kCallJ0 (va_runV (As := [.int 0]) (rest := []) ⟨hx, hb, hml, hown, hts⟩ (c_now0 l hl9 dC dI cI cN hG _) (cwV 1 hts gL_law_X6_now rfl rfl rfl (by decide +kernel) ⟨Nat.le_of_ble_eq_true rfl, Nat.le_of_ble_eq_true rfl⟩) (kUE_V hP hK hD hN (kE_kept hE hS.2.1) hat) rfl rfl hl.1 rfl (lv_room (Nat.le_of_ble_eq_true rfl)) dL_law_280 ⟨by show cells + 0 ≤ 600130; omega, by show slots + 0 ≤ 7301080; omega⟩) hP hD hS (fun _ h => h) (fun r w1 H locs g hP hD hS => ?_)
  obtain ⟨er, ew⟩ := g
  rw [ew] at hP hD
  subst er
  refine lv_aload_n hx hb dL_law_283 rfl (lv_at hl 6 rfl) ?_
  refine lv_iload hx hb dL_law_284 (lv_at hl 1 rfl) ?_
  refine kRen (y := nI ec) d1 ?_
  refine lv_iload hx hb dL_law_286 (lv_at hl 0 rfl) ?_
  refine kRen (y := nI eL) d2 ?_
  refine kCallJ0 (va_runV (As := [.int (nI ec), .int (nI eL)]) (rest := [.int (nI K)]) ⟨hx, hb, hml, hown, hts⟩ (c_bound l hl9 dC dI cI cN hG ec eL d3 d4 d5 d6 _) (cwV 2 hts gL_law_X6_bound rfl rfl rfl (by decide +kernel) ⟨Nat.le_of_ble_eq_true rfl, Nat.le_of_ble_eq_true rfl⟩) (kUE_V hP hK hD hN (kE_kept hE hS.2.1) hat) rfl rfl hl.1 rfl (lv_room (Nat.le_of_ble_eq_true rfl)) dL_law_288 ⟨by show cells + 0 ≤ 600130; omega, by show slots + 0 ≤ 7301080; omega⟩) hP hD hS (fun _ h => h) (fun r w1 H locs g hP hD hS => ?_)
  obtain ⟨er, ew⟩ := g
  rw [ew] at hP hD
  subst er
  refine lv_icmp_ge (tgt := 296) hx hb dL_law_291 (by decide) (fun _ => ?_) (fun c4 => absurd (Int32.not_lt.mp (bound_le d7 d3 d4 d5 d6 V)) c4)
  have lp : ∀ (z i : Nat) (H : Heap) (locs : List Loc) (ls : Array Slot), z + i = n → va_P (dC, dI) kCl (w ++ kY cI cP pr pf rs) H → va_D (fun q : Nat => s.heap.size ≤ q) (w ++ kY cI cP pr pf rs) → va_S (fun q : Nat => s.heap.size ≤ q) s.heap H locs → lv_has ls 14 [(12, .int (nI i)), (11, .int (P_leastRing K f)), (10, .int (P_evenCount K f)), (3, .int (nI n)), (6, .int (nI K0)), (4, .int (nI t)), (0, .ref b), (1, .ref s0), (2, .ref pr)] → W p l e room_1 s m #[Value.ref b] below meth c H locs cells slots Q (F0 m 299 ls []) := by
    intro z
    induction z with
    | zero =>
      intro i H locs ls hi hP hD hS hl
      refine lv_iload hx hb dL_law_299 (lv_at hl 0 rfl) ?_
      refine lv_iload_n hx hb dL_law_301 rfl (lv_at hl 3 rfl) ?_
      refine lv_icmp_ge (tgt := 349) hx hb dL_law_302 (by decide) (fun c5 => ?_) (fun c5 => ?_)
      · exact kk H locs ls hP hD hS (lv_sub hl [3, 5, 6, 7, 8] rfl)
      · exact absurd (kTop (x := nI n) rfl (show i = n by omega)) c5
    | succ z ih =>
      intro i H locs ls hi hP hD hS hl
      refine lv_iload hx hb dL_law_299 (lv_at hl 0 rfl) ?_
      refine lv_iload_n hx hb dL_law_301 rfl (lv_at hl 3 rfl) ?_
      refine lv_icmp_ge (tgt := 349) hx hb dL_law_302 (by decide) (fun c5 => ?_) (fun c5 => ?_)
      · exact absurd c5 (kLow (x := nI n) (N := n) rfl (by omega) (by omega))
      · have hil : i < rs.length := by rw [hpr.1]; omega
        obtain ⟨hri, K9, c9, L9, k1, k2, k3, k4, k5, k6, k7, k8, no⟩ := hpr.2 i _ (List.getElem?_eq_getElem hil)
        have hrow := kAtY (w := w) (Y := kY cI cP pr pf rs) (k := i + 1) (show (kY cI cP pr pf rs)[i + 1]? = _ from kRows_at (List.getElem?_eq_getElem hil))
        have next : ∀ (H : Heap) (locs : List Loc), va_P (dC, dI) kCl (w ++ kY cI cP pr pf rs) H → va_D (fun q : Nat => s.heap.size ≤ q) (w ++ kY cI cP pr pf rs) → va_S (fun q : Nat => s.heap.size ≤ q) s.heap H locs → W p l e room_1 s m #[Value.ref b] below meth c H locs cells slots Q (F0 m 343 ls []) := by
          intro H locs hP hD hS
          refine lv_iinc (v := nI (i + 1)) (lv' := [(12, .int (nI (i + 1))), (11, .int (P_leastRing K f)), (10, .int (P_evenCount K f)), (3, .int (nI n)), (6, .int (nI K0)), (4, .int (nI t)), (0, .ref b), (1, .ref s0), (2, .ref pr)]) hx hb dL_law_343 hl (k := 0) rfl (nI_1 _) (by decide) rfl (fun ls hl => ?_)
          refine lv_goto (tgt := 299) hx hb dL_law_346 (by decide) ?_
          exact ih (i + 1) H locs ls (by omega) hP hD hS (lv_sub hl [0, 1, 2, 3, 4, 5, 6, 7, 8] rfl)
        refine lv_aload_n hx hb dL_law_305 rfl (lv_at hl 8 rfl) ?_
        refine lv_iload hx hb dL_law_306 (lv_at hl 0 rfl) ?_
        refine kLdAA hx hb hPA hP (w.length + 0) (kAtY rfl) (vp_in_nI (by omega) (by omega)) dL_law_308 ?_
        refine kRenV (y := .ref (rs[i]).1) (by rw [nI_clamp (show i < 2 ^ 31 by omega), hri]; rfl) ?_
        refine lv_iconst (v := 0) hx hb dL_law_309 (by decide) ?_
        refine va_iald hx hb (hK.sub [0, 1] rfl) hP (w.length + (i + 1)) 0 hrow rfl (vp_in_nI (n := 0) (N := 3) (by decide) (by decide)) dL_law_310 ?_
        refine kRen (y := nI K9) k6 ?_
        refine lv_aload_n hx hb dL_law_311 rfl (lv_at hl 7 rfl) ?_
        refine lv_iconst (v := 0) hx hb dL_law_312 (by decide) ?_
        refine kCallJ0 (va_runV (As := [.int 0]) (rest := [.int (nI K9)]) ⟨hx, hb, hml, hown, hts⟩ (c_now0 l hl9 dC dI cI cN hG _) (cwV 1 hts gL_law_X6_now rfl rfl rfl (by decide +kernel) ⟨Nat.le_of_ble_eq_true rfl, Nat.le_of_ble_eq_true rfl⟩) (kUE_V hP hK hD hN (kE_kept hE hS.2.1) hat) rfl rfl hl.1 rfl (lv_room (Nat.le_of_ble_eq_true rfl)) dL_law_313 ⟨by show cells + 0 ≤ 600130; omega, by show slots + 0 ≤ 7301080; omega⟩) hP hD hS (fun _ h => h) (fun r w1 H locs g hP hD hS => ?_)
        obtain ⟨er, ew⟩ := g
        rw [ew] at hP hD
        subst er
        refine lv_icmp_ne (tgt := 343) hx hb dL_law_316 (by decide) (fun _ => next H locs hP hD hS) (fun c6 => ?_)
        refine lv_aload_n hx hb dL_law_319 rfl (lv_at hl 8 rfl) ?_
        refine lv_iload hx hb dL_law_320 (lv_at hl 0 rfl) ?_
        refine kLdAA hx hb hPA hP (w.length + 0) (kAtY rfl) (vp_in_nI (by omega) (by omega)) dL_law_322 ?_
        refine kRenV (y := .ref (rs[i]).1) (by rw [nI_clamp (show i < 2 ^ 31 by omega), hri]; rfl) ?_
        refine lv_iconst (v := 1) hx hb dL_law_323 (by decide) ?_
        refine va_iald hx hb (hK.sub [0, 1] rfl) hP (w.length + (i + 1)) 0 hrow rfl (vp_in_nI (n := 1) (N := 3) (by decide) (by decide)) dL_law_324 ?_
        refine kRen (y := nI c9) k7 ?_
        refine lv_iload hx hb dL_law_325 (lv_at hl 2 rfl) ?_
        refine kRen (y := nI ec) d1 ?_
        refine lv_icmp_ne (tgt := 343) hx hb dL_law_327 (by decide) (fun _ => next H locs hP hD hS) (fun c7 => ?_)
        refine lv_aload_n hx hb dL_law_330 rfl (lv_at hl 8 rfl) ?_
        refine lv_iload hx hb dL_law_331 (lv_at hl 0 rfl) ?_
        refine kLdAA hx hb hPA hP (w.length + 0) (kAtY rfl) (vp_in_nI (by omega) (by omega)) dL_law_333 ?_
        refine kRenV (y := .ref (rs[i]).1) (by rw [nI_clamp (show i < 2 ^ 31 by omega), hri]; rfl) ?_
        refine lv_iconst (v := 2) hx hb dL_law_334 (by decide) ?_
        refine va_iald hx hb (hK.sub [0, 1] rfl) hP (w.length + (i + 1)) 0 hrow rfl (vp_in_nI (n := 2) (N := 3) (by decide) (by decide)) dL_law_335 ?_
        refine kRen (y := nI L9) k8 ?_
        refine lv_iload hx hb dL_law_336 (lv_at hl 1 rfl) ?_
        refine kRen (y := nI eL) d2 ?_
        refine lv_icmp_gt (tgt := 343) hx hb dL_law_338 (by decide) (fun _ => next H locs hP hD hS) (fun c8 => ?_)
        exfalso
        have a1 : K9 = K := (nI_eq (by omega) (by omega)).mp c6
        have a2 : c9 = ec := (nI_eq (by omega) (by omega)).mp c7
        have a3 : L9 ≤ eL := by
          rcases Nat.lt_or_ge eL L9 with z9 | z9
          · exact absurd (nI_lt z9 (by omega)) c8
          · exact z9
        subst a1
        subst a2
        exact no f (V.mono a3)
  refine lv_iconst (v := 0) hx hb dL_law_296 (by decide) ?_
  refine lv_istore (lv' := [(12, .int 0), (11, .int (P_leastRing K f)), (10, .int (P_evenCount K f)), (3, .int (nI n)), (6, .int (nI K0)), (4, .int (nI t)), (0, .ref b), (1, .ref s0), (2, .ref pr)]) hx hb dL_law_297 hl (by decide) rfl (fun ls hl => ?_)
  exact lp n 0 H locs ls (by omega) hP hD hS (lv_sub hl [0, 1, 2, 3, 4, 5, 6, 7, 8] rfl)
theorem kCmp (x : Int64) : lg_cmp x x = 0 := by
  unfold lg_cmp
  simp
set_option maxHeartbeats 8000000 in
set_option maxRecDepth 100000 in
theorem law_F (hC : kLX p l s m c b L xs dC dI cI cN cP) (hG : kG cI cN s0 K f isOn cnt len sta w) {t n : Nat} (ht : t < 40) (hP : va_P (dC, dI) kCl (w ++ Y) H) (hD : va_D (fun q : Nat => s.heap.size ≤ q) (w ++ Y)) (hS : va_S (fun q : Nat => s.heap.size ≤ q) s.heap H locs) (hc : cells + 10 ≤ 600130) (hs : slots + 100 ≤ 7301080) (hl : lv_has ls 14 [(3, .int (nI n)), (4, .int (nI t)), (0, .ref b), (1, .ref s0), (2, .ref pr)])
    (kk : ∀ (w : va_W) (H : Heap) (locs : List Loc) (ls : Array Slot), kG cI cN s0 K f isOn cnt len sta w → va_P (dC, dI) kCl (w ++ Y) H → va_D (fun q : Nat => s.heap.size ≤ q) (w ++ Y) → va_S (fun q : Nat => s.heap.size ≤ q) s.heap H locs → lv_has ls 14 [(3, .int (nI n)), (4, .int (nI t)), (0, .ref b), (1, .ref s0), (2, .ref pr)] → W p l e room_1 s m #[Value.ref b] below meth c H locs cells slots Q (F0 m 384 ls [])) : W p l e room_1 s m #[Value.ref b] below meth c H locs cells slots Q (F0 m 349 ls []) := by
  obtain ⟨hx, hb, hml, hown, hts, hX, hbl, hL, hK, hN, hE, hNc, hl9, hPA, hfI⟩ := hC
  obtain ⟨fs0, hat⟩ := kG_at hG
  refine lv_iload hx hb dL_law_349 (lv_at hl 1 rfl) ?_
  refine lv_bipush (v := 13) hx hb dL_law_351 (by decide) ?_
  refine lv_irem hx hb dL_law_353 (by decide) ?_
  refine lv_topi (fun y1 _ => ?_)
  refine lv_bipush (v := 12) hx hb dL_law_354 (by decide) ?_
  refine lv_icmp_ne (tgt := 384) hx hb dL_law_356 (by decide) (fun _ => kk w H locs ls hG hP hD hS hl) (fun _ => ?_)
  obtain ⟨ad, km, rf, bw, bars, puts, bap, stp, pm, bm, g, t9, kf, ks, h0, hI, hGx⟩ := hG
  subst h0
  refine lv_aload_n hx hb dL_law_359 rfl (lv_at hl 3 rfl) ?_
  refine kCallJl0 (va_runV (As := []) (rest := []) ⟨hx, hb, hml, hown, hts⟩ (c_digest l dC dI cI cN hI hGx _) (cwV 0 hts gL_law_X6_digest rfl rfl rfl (by decide +kernel) ⟨Nat.le_of_ble_eq_true rfl, Nat.le_of_ble_eq_true rfl⟩) (kUE_V hP hK hD hN (kE_kept hE hS.2.1) hat) rfl rfl hl.1 rfl (lv_room (Nat.le_of_ble_eq_true rfl)) dL_law_360 ⟨by show cells + 0 ≤ 600130; omega, by show slots + 0 ≤ 7301080; omega⟩) hP hD hS (fun _ h => h) (fun r1 w1 H locs gg hP hD hS => ?_)
  obtain ⟨e1, hGx⟩ := gg
  subst e1
  refine lv_lstore (lv' := [(12, .long (kDig K f rf bw isOn cnt len stp sta pm bm g t9 ks)), (3, .int (nI n)), (4, .int (nI t)), (0, .ref b), (1, .ref (ad 0)), (2, .ref pr)]) hx hb dL_law_363 hl (by decide) rfl (fun ls hl => ?_)
  have hG : kG cI cN (ad 0) K f isOn cnt len sta w1 := ⟨ad, km, rf, bw, bars, puts, bap, stp, pm, bm, g, t9, kf, ks, rfl, hI, hGx⟩
  obtain ⟨fs1, hat⟩ := kG_at hG
  refine lv_aload_n hx hb dL_law_365 rfl (lv_at hl 4 rfl) ?_
  refine kCallJ0 (va_runV (As := []) (rest := []) ⟨hx, hb, hml, hown, hts⟩ (c_isSound l hl9 dC dI cI cN hG _) (cwV 0 hts gL_law_X6_isSound rfl rfl rfl (by decide +kernel) ⟨Nat.le_of_ble_eq_true rfl, Nat.le_of_ble_eq_true rfl⟩) (kUE_V hP hK hD hN (kE_kept hE hS.2.1) hat) rfl rfl hl.1 rfl (lv_room (Nat.le_of_ble_eq_true rfl)) dL_law_366 ⟨by show cells + 0 ≤ 600130; omega, by show slots + 0 ≤ 7301080; omega⟩) hP hD hS (fun _ h => h) (fun r w2 H locs gg hP hD hS => ?_)
  obtain ⟨er, ew⟩ := gg
  rw [ew] at hP hD
  subst er
  refine lv_if_eq (tgt := 382) hx hb dL_law_369 (by decide) (fun z => absurd z (by decide)) (fun _ => ?_)
  refine lv_aload_n hx hb dL_law_372 rfl (lv_at hl 4 rfl) ?_
  refine kCallJl0 (va_runV (As := []) (rest := []) ⟨hx, hb, hml, hown, hts⟩ (c_digest l dC dI cI cN hI hGx _) (cwV 0 hts gL_law_X6_digest rfl rfl rfl (by decide +kernel) ⟨Nat.le_of_ble_eq_true rfl, Nat.le_of_ble_eq_true rfl⟩) (kUE_V hP hK hD hN (kE_kept hE hS.2.1) hat) rfl rfl hl.1 rfl (lv_room (Nat.le_of_ble_eq_true rfl)) dL_law_373 ⟨by show cells + 0 ≤ 600130; omega, by show slots + 0 ≤ 7301080; omega⟩) hP hD hS (fun _ h => h) (fun r3 w3 H locs gg hP hD hS => ?_)
  obtain ⟨e1, hGx⟩ := gg
  subst e1
  refine lv_lload hx hb dL_law_376 (lv_at hl 0 rfl) ?_
  refine W.lcmp hx hb dL_law_378 ?_
  refine kRen (y := 0) (kCmp _) ?_
  refine lv_if_eq (tgt := 384) hx hb dL_law_379 (by decide) (fun _ => ?_) (fun z => absurd rfl z)
  exact kk w3 H locs ls ⟨ad, km, rf, bw, bars, puts, bap, stp, pm, bm, g, t9, kf, ks, rfl, hI, hGx⟩ hP hD hS (lv_sub hl [1, 2, 3, 4, 5] rfl)
set_option maxHeartbeats 8000000 in
set_option maxRecDepth 100000 in
theorem law_loop (hC : kLX p l s m c b L xs dC dI cI cN cP) (hend : ∀ (H : Heap) (locs : List Loc) (ls : Array Slot) (cells slots : Nat), va_S (fun q : Nat => s.heap.size ≤ q) s.heap H locs → cells ≤ 10000 → slots ≤ 100000 → W p l e room_1 s m #[Value.ref b] below meth c H locs cells slots Q (F0 m 390 ls [])) : ∀ (z t n : Nat) {K : Nat} {f : Nat → Int32} {isOn cnt len sta : Int32} {w : va_W} (pf : Nat → Option Nat) (rs : List kRo) (H : Heap) (locs : List Loc) (ls : Array Slot) (cells slots : Nat), z + t = 40 → n ≤ t → kG cI cN s0 K f isOn cnt len sta w → 3 ≤ K → kPr pf rs n → va_P (dC, dI) kCl (w ++ kY cI cP pr pf rs) H → va_D (fun q : Nat => s.heap.size ≤ q) (w ++ kY cI cP pr pf rs) → va_S (fun q : Nat => s.heap.size ≤ q) s.heap H locs → cells + 10 * z ≤ 10000 → slots + 100 * z ≤ 100000 → lv_has ls 14 [(4, .int (nI t)), (0, .ref b), (1, .ref s0), (2, .ref pr), (3, .int (nI n))] → W p l e room_1 s m #[Value.ref b] below meth c H locs cells slots Q (F0 m 36 ls []) := by
  intro z
  induction z with
  | zero =>
    intro t n K f isOn cnt len sta w pf rs H locs ls cells slots hz hn hG h3 hpr hP hD hS hc hs hl
    have hC0 := hC
    obtain ⟨hx, hb, hml, hown, hts, hX, hbl, hL, hK, hN, hE, hNc, hl9, hPA, hfI⟩ := hC
    refine lv_iload hx hb dL_law_36 (lv_at hl 0 rfl) ?_
    refine lv_bipush (v := 40) hx hb dL_law_38 (by decide) ?_
    refine lv_icmp_ge (tgt := 390) hx hb dL_law_40 (by decide) (fun c1 => ?_) (fun c1 => ?_)
    · exact hend H locs ls cells slots hS (by omega) (by omega)
    · exact absurd (kTop (x := 40) (N := 40) rfl (show t = 40 by omega)) c1
  | succ z ih =>
    intro t n K f isOn cnt len sta w pf rs H locs ls cells slots hz hn hG h3 hpr hP hD hS hc hs hl
    have hC0 := hC
    obtain ⟨hx, hb, hml, hown, hts, hX, hbl, hL, hK, hN, hE, hNc, hl9, hPA, hfI⟩ := hC
    refine lv_iload hx hb dL_law_36 (lv_at hl 0 rfl) ?_
    refine lv_bipush (v := 40) hx hb dL_law_38 (by decide) ?_
    refine lv_icmp_ge (tgt := 390) hx hb dL_law_40 (by decide) (fun c1 => ?_) (fun c1 => ?_)
    · exact absurd c1 (kLow (x := 40) (N := 40) rfl (by omega) (by decide))
    · refine law_A hC0 hG (by omega) hP hD hS (by omega) (by omega) hl (fun x cf q8 H locs ls hcf hP hD hS hl => ?_)
      have hN0 := kG_net hG
      have hK16 : K ≤ 16 := hN0.1.1
      refine law_B hC0 hG h3 hP hD hS (by omega) (by omega) hl (fun r w1 H locs ls ha hP hD hS hl => ?_)
      obtain ⟨K', f', o', c', l', a', h3', hG', h2, h7⟩ := ha
      refine law_C hC0 hG' hpr (by omega) h2 hP hD hS (by omega) (by omega) hl (fun n1 pf1 rs1 cells1 slots1 H locs ls hn1 hpr1 hc1 hs1 hP hD hS hl => ?_)
      refine law_D hC0 hG' h3 hcf h7 hP hD hS (by omega) (by omega) hl (fun H locs ls hP hD hS hl => ?_)
      refine law_E hC0 hG' hpr1 (by omega) hP hD hS (by omega) (by omega) hl (fun H locs ls hP hD hS hl => ?_)
      refine law_F hC0 hG' (by omega) hP hD hS (by omega) (by omega) hl (fun w2 H locs ls hG2 hP hD hS hl => ?_)
      refine lv_iinc (v := nI (t + 1)) (lv' := [(4, .int (nI (t + 1))), (3, .int (nI n1)), (0, .ref b), (1, .ref s0), (2, .ref pr)]) hx hb dL_law_384 hl (k := 1) rfl (nI_1 _) (by decide) rfl (fun ls hl => ?_)
      refine lv_goto (tgt := 36) hx hb dL_law_387 (by decide) ?_
      exact ih (t + 1) n1 pf1 rs1 H locs ls cells1 slots1 (by omega) (by omega) hG2 h3' hpr1 hP hD hS (by omega) (by omega) (lv_sub hl [0, 2, 3, 4, 1] rfl)
end LAW

/-! likeness (printed by wip/gen) -/
def L_nextToPlace_7 (KF : Nat) (ff : Nat → Int32) (pl : Int32) (left : Int32) (k : Int32 → Int32 → Int32) : Nat → Nat → Int32 → Int32 → Int32
  | 0, knot, best, most => k best most
  | n + 1, knot, best, most =>
    bd (P_bitCount ((P_nearOf ff (nI knot)) &&& pl)) (fun many_1 =>
      if (P_holds left (nI knot)) = 0 then
        L_nextToPlace_7 KF ff pl left k n (knot + 1) best most
      else
        if many_1 ≤ most then
          L_nextToPlace_7 KF ff pl left k n (knot + 1) best most
        else
          L_nextToPlace_7 KF ff pl left k n (knot + 1) (nI knot) many_1)
def P_nextToPlace (KF : Nat) (ff : Nat → Int32) (pl : Int32) (left : Int32) : Int32 :=
  L_nextToPlace_7 KF ff pl left (fun best most => best) KF 0 (-1) (-1)
abbrev rm_X2_nextToPlace : Room := { frames := 1, cells := 0, slots := 0, locals := 21 }
set_option maxHeartbeats 4000000 in
set_option maxRecDepth 100000 in
theorem k_X2_nextToPlace (l : Launch) (dC : Nat → ClassId) (dI : Nat → Nat → Nat) (cI cN : ClassId) (d0 : Nat) (f0 : Nat) (f1 : Nat) (t0 : Nat) (t1 : Nat) (d1 : Nat) (KF : Nat) (ff : Nat → Int32) (KT : Nat) (tf : Nat → Int32) (im : Nat → Int32) (pl : Int32) (left : Int32) (hKF : KF ≤ 16) (hKT : KT ≤ 16) : Met l yX2_nextToPlace wsX2_nextToPlace rm_X2_nextToPlace (va_Pc [.ref d0, .int left] (kW dC dI cI cN [(d0, .inr (2, [.ref f0, .ref t0, .ref d1, .int pl])), (f0, .inr (3, [.ref f1, .int (nI KF)])), (f1, .inl (cI, 16, .inl ff)), (t0, .inr (3, [.ref t1, .int (nI KT)])), (t1, .inl (cI, 16, .inl tf)), (d1, .inl (cI, 16, .inl im))])) (kR (P_nextToPlace KF ff pl left)) 0 0 (fun _ => False) := by
  refine Met.ofW (cc := cX2_nextToPlace) (maxL := 6) (ret := (some .int)) (by decide) rfl ?_
  intro p e s m args below meth c s₁ B hml hv
  obtain ⟨rfl, hP, hK, hD, hN⟩ := hv
  have hx := B.exec
  have hb := B.bytes
  have hr0 := B.returns
  have hts := atoms_spec (ws := wsX2_nextToPlace) B.pre
  have hown : s.vm.findClass RX2 = some m.cls := findClass_of_methodNamed B.named
  have hlocks := B.notSynchronized
  have hS : va_S (fun _ => False) s.heap s.heap [] := va_S.rf
  have hl := lv_entry ([.ref d0, .int left]) (n := 6) (Nat.le_of_ble_eq_true rfl)
  rw [lg_entry_eq]
  generalize (lg_sl ([.ref d0, .int left]) ++ List.replicate (6 - (lg_sl ([.ref d0, .int left])).length) Slot.unset).toArray = ls at hl ⊢
  have hl : lv_has ls 6 [(0, .ref d0), (1, .int left)] := hl
  obtain ⟨ρ, hρ⟩ : ∃ ρ : Int32, ρ = P_nextToPlace KF ff pl left := ⟨_, rfl⟩
  have hr : P_nextToPlace KF ff pl left = ρ := hρ.symm
  rewrite [P_nextToPlace] at hr
  refine lv_iconst (v := (-1)) hx hb dX2_nextToPlace_0 (by decide) ?_
  refine lv_istore_n (lv' := [(2, .int (-1)), (0, .ref d0), (1, .int left)]) hx hb dX2_nextToPlace_1 rfl hl (by decide) rfl (fun ls hl => ?_)
  refine lv_iconst (v := (-1)) hx hb dX2_nextToPlace_2 (by decide) ?_
  refine lv_istore_n (lv' := [(3, .int (-1)), (2, .int (-1)), (0, .ref d0), (1, .int left)]) hx hb dX2_nextToPlace_3 rfl hl (by decide) rfl (fun ls hl => ?_)
  refine lv_iconst (v := 0) hx hb dX2_nextToPlace_4 (by decide) ?_
  refine lv_istore (lv' := [(4, .int 0), (3, .int (-1)), (2, .int (-1)), (0, .ref d0), (1, .int left)]) hx hb dX2_nextToPlace_5 hl (by decide) rfl (fun ls hl => ?_)
  have ex_7 : ∀ (best : Int32) (most : Int32) (H : Heap) (locs : List Loc) (ls : Array Slot), (best) = ρ → va_P (dC, dI) kCl [(d0, .inr (2, [.ref f0, .ref t0, .ref d1, .int pl])), (f0, .inr (3, [.ref f1, .int (nI KF)])), (f1, .inl (cI, 16, .inl ff)), (t0, .inr (3, [.ref t1, .int (nI KT)])), (t1, .inl (cI, 16, .inl tf)), (d1, .inl (cI, 16, .inl im))] H → va_S (fun _ => False) s.heap H locs → lv_has ls 6 [(2, .int best), (3, .int most), (0, .ref d0), (1, .int left)] → W p l e (headSpec wsX2_nextToPlace rm_X2_nextToPlace).room s m (([.ref d0, .int left] : List Value).toArray) below meth c H locs 0 0 (MQ below (kR (P_nextToPlace KF ff pl left)) (([.ref d0, .int left] : List Value).toArray) s 0 0 (fun _ => False)) (F0 m 65 ls []) := by
    intro best most H locs ls hr hP hS hl
    refine lv_iload_n hx hb dX2_nextToPlace_65 rfl (lv_at hl 0 rfl) ?_
    have he := hr.trans hρ
    exact W.iret (v := best) hx hb hr0 (fun t ht hW => kR_end he hS ht) hS.2.2 dX2_nextToPlace_66
  have lp_7 : ∀ (n_7 knot : Nat) (best : Int32) (most : Int32) (H : Heap) (locs : List Loc) (ls : Array Slot), knot + n_7 = KF → L_nextToPlace_7 KF ff pl left (fun best most => best) n_7 knot best most = ρ → va_P (dC, dI) kCl [(d0, .inr (2, [.ref f0, .ref t0, .ref d1, .int pl])), (f0, .inr (3, [.ref f1, .int (nI KF)])), (f1, .inl (cI, 16, .inl ff)), (t0, .inr (3, [.ref t1, .int (nI KT)])), (t1, .inl (cI, 16, .inl tf)), (d1, .inl (cI, 16, .inl im))] H → va_S (fun _ => False) s.heap H locs → lv_has ls 6 [(4, .int (nI knot)), (2, .int best), (3, .int most), (0, .ref d0), (1, .int left)] → W p l e (headSpec wsX2_nextToPlace rm_X2_nextToPlace).room s m (([.ref d0, .int left] : List Value).toArray) below meth c H locs 0 0 (MQ below (kR (P_nextToPlace KF ff pl left)) (([.ref d0, .int left] : List Value).toArray) s 0 0 (fun _ => False)) (F0 m 7 ls []) := by
    intro n_7
    induction n_7 with
    | zero =>
      intro knot best most H locs ls hi hr hP hS hl
      rewrite [L_nextToPlace_7] at hr
      refine lv_iload hx hb dX2_nextToPlace_7 (lv_at hl 0 rfl) ?_
      refine lv_aload_n hx hb dX2_nextToPlace_9 rfl (lv_at hl 3 rfl) ?_
      refine va_get (D := (dC, dI)) (ci := 2) (v := .ref f0) (C := RX2) (T := TX2) (N := 4) hx hb hts (by decide +kernel) hown hK hP 0 rfl rfl 0 (by decide) (hts (.fieldLink RX2 12 "Shortring$Likeness" "from" "LShortring$Net;") (by decide +kernel)) (fun _ h9 => h9) rfl dX2_nextToPlace_10 ?_
      refine va_getN (D := (dC, dI)) (ci := 3) (v := .int (nI KF)) (C := RX3) (T := TX3) (N := 2) hx hb hts (by decide +kernel) hown hK hP 1 rfl rfl 1 (by decide) (va_Nw.use rfl (hN.2 10 _ rfl)) (fun _ h9 => h9) rfl dX2_nextToPlace_13 ?_
      refine lv_icmp_ge (tgt := 65) hx hb dX2_nextToPlace_16 (by decide) (fun c_1 => ?_) (fun c_1 => ?_)
      · exact ex_7 best most _ _ _ hr hP hS (lv_sub hl [1, 2, 3, 4] rfl)
      · exact absurd (kTop (i := knot) (N := KF) rfl (by omega)) c_1
    | succ n_7 ih_7 =>
      intro knot best most H locs ls hi hr hP hS hl
      rewrite [L_nextToPlace_7] at hr
      refine lv_iload hx hb dX2_nextToPlace_7 (lv_at hl 0 rfl) ?_
      refine lv_aload_n hx hb dX2_nextToPlace_9 rfl (lv_at hl 3 rfl) ?_
      refine va_get (D := (dC, dI)) (ci := 2) (v := .ref f0) (C := RX2) (T := TX2) (N := 4) hx hb hts (by decide +kernel) hown hK hP 0 rfl rfl 0 (by decide) (hts (.fieldLink RX2 12 "Shortring$Likeness" "from" "LShortring$Net;") (by decide +kernel)) (fun _ h9 => h9) rfl dX2_nextToPlace_10 ?_
      refine va_getN (D := (dC, dI)) (ci := 3) (v := .int (nI KF)) (C := RX3) (T := TX3) (N := 2) hx hb hts (by decide +kernel) hown hK hP 1 rfl rfl 1 (by decide) (va_Nw.use rfl (hN.2 10 _ rfl)) (fun _ h9 => h9) rfl dX2_nextToPlace_13 ?_
      refine lv_icmp_ge (tgt := 65) hx hb dX2_nextToPlace_16 (by decide) (fun c_2 => ?_) (fun c_2 => ?_)
      · exact absurd c_2 (kLow (i := knot) (N := KF) rfl (by omega) (by omega))
      · refine lv_aload_n hx hb dX2_nextToPlace_19 rfl (lv_at hl 3 rfl) ?_
        refine va_get (D := (dC, dI)) (ci := 2) (v := .ref f0) (C := RX2) (T := TX2) (N := 4) hx hb hts (by decide +kernel) hown hK hP 0 rfl rfl 0 (by decide) (hts (.fieldLink RX2 12 "Shortring$Likeness" "from" "LShortring$Net;") (by decide +kernel)) (fun _ h9 => h9) rfl dX2_nextToPlace_20 ?_
        refine lv_iload hx hb dX2_nextToPlace_23 (lv_at hl 0 rfl) ?_
        refine kCall (va_runVN (As := [.int (nI knot)]) (rest := []) ⟨hx, hb, hml, hown, hts⟩ (k_X3_nearOf l dC dI cI cN f0 f1 KF ff (nI knot) (by first | assumption | omega | exact Int32.le_refl _ | decide)) ⟨va_cnB 1 hts gX2_nextToPlace_X3_nearOf_n89 rfl rfl rfl (hN.1 60 _ rfl) (hts (.initialized RX3) (by decide +kernel)) (by decide +kernel) ⟨Nat.le_of_ble_eq_true rfl, Nat.le_of_ble_eq_true rfl⟩, hts (.instanceMethod yX3_nearOf) (by decide +kernel), hts (.selects RX3 yX3_nearOf yX3_nearOf) (by decide +kernel)⟩ (kW_V hP hK hD hN (ci := 3) (q0 := 1) rfl rfl [1, 2] rfl rfl rfl) rfl rfl hl.1 rfl (lv_room (Nat.le_of_ble_eq_true rfl)) dX2_nextToPlace_25 ⟨Nat.zero_le _, Nat.zero_le _⟩) hP hS (fun H locs hP hS => ?_)
        refine lv_aload_n hx hb dX2_nextToPlace_28 rfl (lv_at hl 3 rfl) ?_
        refine va_get (D := (dC, dI)) (ci := 2) (v := .int pl) (C := RX2) (T := TX2) (N := 4) hx hb hts (by decide +kernel) hown hK hP 0 rfl rfl 3 (by decide) (hts (.fieldLink RX2 25 "Shortring$Likeness" "placed" "I") (by decide +kernel)) (fun _ h9 => h9) rfl dX2_nextToPlace_29 ?_
        refine lv_iand hx hb dX2_nextToPlace_32 ?_
        refine kCall (va_runS (As := [.int ((P_nearOf ff (nI knot)) &&& pl)]) (rest := []) ⟨hx, hb, hml, hown, hts⟩ (k_J6_bitCount_0f7a4 l dC dI cI cN ((P_nearOf ff (nI knot)) &&& pl)) (va_cwS 1 hts gX2_nextToPlace_J6_bitCount_0f7a4 rfl rfl rfl (by decide +kernel) ⟨Nat.le_of_ble_eq_true rfl, Nat.le_of_ble_eq_true rfl⟩) (kW_S hP hK hD hN [] rfl rfl rfl) rfl rfl hl.1 rfl (lv_room (Nat.le_of_ble_eq_true rfl)) dX2_nextToPlace_33 ⟨Nat.zero_le _, Nat.zero_le _⟩) hP hS (fun H locs hP hS => ?_)
        refine lv_topi (fun many_3 emany_3 => ?_)
        have hr := bd_to hr emany_3
        refine lv_istore (lv' := [(5, .int many_3), (4, .int (nI knot)), (2, .int best), (3, .int most), (0, .ref d0), (1, .int left)]) hx hb dX2_nextToPlace_36 hl (by decide) rfl (fun ls hl => ?_)
        refine lv_iload_n hx hb dX2_nextToPlace_38 rfl (lv_at hl 5 rfl) ?_
        refine lv_iload hx hb dX2_nextToPlace_39 (lv_at hl 1 rfl) ?_
        refine kCall (va_runSN (As := [.int left, .int (nI knot)]) (rest := []) ⟨hx, hb, hml, hown, hts⟩ (k_X6_holds l dC dI cI cN left (nI knot)) ⟨va_cnB 2 hts gX2_nextToPlace_X6_holds_n36 rfl rfl rfl (hN.1 56 _ rfl) (hts (.initialized RX6) (by decide +kernel)) (by decide +kernel) ⟨Nat.le_of_ble_eq_true rfl, Nat.le_of_ble_eq_true rfl⟩, hts (.static yX6_holds) (by decide +kernel), trivial⟩ (kW_S hP hK hD hN [] rfl rfl rfl) rfl rfl hl.1 rfl (lv_room (Nat.le_of_ble_eq_true rfl)) dX2_nextToPlace_41 ⟨Nat.zero_le _, Nat.zero_le _⟩) hP hS (fun H locs hP hS => ?_)
        refine lv_if_eq (tgt := 59) hx hb dX2_nextToPlace_44 (by decide) (fun c_4 => ?_) (fun c_4 => ?_)
        · have hr := if_to hr c_4
          refine lv_iinc (v := nI (knot + 1)) (lv' := [(4, .int (nI (knot + 1))), (5, .int many_3), (2, .int best), (3, .int most), (0, .ref d0), (1, .int left)]) hx hb dX2_nextToPlace_59 hl (k := 1) rfl (nI_1 _) (by decide) rfl (fun ls hl => ?_)
          refine lv_goto (tgt := 7) hx hb dX2_nextToPlace_62 (by decide) ?_
          exact ih_7 (knot + 1) best most _ _ _ (by omega) hr hP hS (lv_sub hl [0, 2, 3, 4, 5] rfl)
        · have hr := if_no hr c_4
          refine lv_iload hx hb dX2_nextToPlace_47 (lv_at hl 0 rfl) ?_
          refine lv_iload_n hx hb dX2_nextToPlace_49 rfl (lv_at hl 3 rfl) ?_
          refine lv_icmp_le (tgt := 59) hx hb dX2_nextToPlace_50 (by decide) (fun c_5 => ?_) (fun c_5 => ?_)
          · have hr := if_to hr c_5
            refine lv_iinc (v := nI (knot + 1)) (lv' := [(4, .int (nI (knot + 1))), (5, .int many_3), (2, .int best), (3, .int most), (0, .ref d0), (1, .int left)]) hx hb dX2_nextToPlace_59 hl (k := 1) rfl (nI_1 _) (by decide) rfl (fun ls hl => ?_)
            refine lv_goto (tgt := 7) hx hb dX2_nextToPlace_62 (by decide) ?_
            exact ih_7 (knot + 1) best most _ _ _ (by omega) hr hP hS (lv_sub hl [0, 2, 3, 4, 5] rfl)
          · have hr := if_no hr c_5
            refine lv_iload hx hb dX2_nextToPlace_53 (lv_at hl 0 rfl) ?_
            refine lv_istore_n (lv' := [(3, .int many_3), (5, .int many_3), (4, .int (nI knot)), (2, .int best), (0, .ref d0), (1, .int left)]) hx hb dX2_nextToPlace_55 rfl hl (by decide) rfl (fun ls hl => ?_)
            refine lv_iload hx hb dX2_nextToPlace_56 (lv_at hl 2 rfl) ?_
            refine lv_istore_n (lv' := [(2, .int (nI knot)), (3, .int many_3), (5, .int many_3), (4, .int (nI knot)), (0, .ref d0), (1, .int left)]) hx hb dX2_nextToPlace_58 rfl hl (by decide) rfl (fun ls hl => ?_)
            refine lv_iinc (v := nI (knot + 1)) (lv' := [(4, .int (nI (knot + 1))), (2, .int (nI knot)), (3, .int many_3), (5, .int many_3), (0, .ref d0), (1, .int left)]) hx hb dX2_nextToPlace_59 hl (k := 3) rfl (nI_1 _) (by decide) rfl (fun ls hl => ?_)
            refine lv_goto (tgt := 7) hx hb dX2_nextToPlace_62 (by decide) ?_
            exact ih_7 (knot + 1) (nI knot) many_3 _ _ _ (by omega) hr hP hS (lv_sub hl [0, 1, 2, 4, 5] rfl)
  exact lp_7 KF 0 (-1) (-1) _ _ _ (by omega) hr hP hS (lv_sub hl [0, 2, 1, 3, 4] rfl)
def L_fitting_78 (tf : Nat → Int32) (im : Nat → Int32) (pl : Int32) (k : Int32 → Int32 → Int32) : Nat → Nat → Int32 → Int32 → Int32
  | 0, other, fit, nearFrom => k fit nearFrom
  | n + 1, other, fit, nearFrom =>
    if (P_holds pl (nI other)) = 0 then
      L_fitting_78 tf im pl k n (other + 1) fit nearFrom
    else
      bd (P_nearOf tf (im other)) (fun nearTo_1 =>
        if (P_holds nearFrom (nI other)) = 0 then
          bd (fit &&& (nearTo_1 ^^^ (-1 : Int32))) (fun fit_2 =>
            L_fitting_78 tf im pl k n (other + 1) fit_2 nearFrom)
        else
          bd (fit &&& nearTo_1) (fun fit_3 =>
            L_fitting_78 tf im pl k n (other + 1) fit_3 nearFrom))
def L_fitting_21 (ff : Nat → Int32) (KT : Nat) (tf : Nat → Int32) (im : Nat → Int32) (pl : Int32) (knot : Int32) (free : Int32) (k : Int32 → Int32 → Int32 → Int32) : Nat → Nat → Int32 → Int32 → Int32 → Int32
  | 0, place, fit, nearFrom, count => k fit nearFrom count
  | n + 1, place, fit, nearFrom, count =>
    if (P_holds free (nI place)) = 0 then
      L_fitting_21 ff KT tf im pl knot free k n (place + 1) fit nearFrom count
    else
      if (P_bitCount (P_nearOf tf (nI place))) = count then
        bd (fit ||| (P_bit (nI place))) (fun fit_1 =>
          L_fitting_21 ff KT tf im pl knot free k n (place + 1) fit_1 nearFrom count)
      else
        L_fitting_21 ff KT tf im pl knot free k n (place + 1) fit nearFrom count
def P_fitting (ff : Nat → Int32) (KT : Nat) (tf : Nat → Int32) (im : Nat → Int32) (pl : Int32) (knot : Int32) (free : Int32) : Int32 :=
  bd (P_nearOf ff knot) (fun nearFrom_1 =>
    bd (P_bitCount nearFrom_1) (fun count_2 =>
      L_fitting_21 ff KT tf im pl knot free (fun fit nearFrom count => L_fitting_78 tf im pl (fun fit nearFrom => fit) 16 0 fit nearFrom) KT 0 0 nearFrom_1 count_2))
abbrev rm_X2_fitting : Room := { frames := 1, cells := 0, slots := 0, locals := 21 }
set_option maxHeartbeats 4000000 in
set_option maxRecDepth 100000 in
theorem k_X2_fitting (l : Launch) (dC : Nat → ClassId) (dI : Nat → Nat → Nat) (cI cN : ClassId) (d0 : Nat) (f0 : Nat) (f1 : Nat) (t0 : Nat) (t1 : Nat) (d1 : Nat) (KF : Nat) (ff : Nat → Int32) (KT : Nat) (tf : Nat → Int32) (im : Nat → Int32) (pl : Int32) (knot : Int32) (free : Int32) (hKF : KF ≤ 16) (hKT : KT ≤ 16) : Met l yX2_fitting wsX2_fitting rm_X2_fitting (va_Pc [.ref d0, .int knot, .int free] (kW dC dI cI cN [(d0, .inr (2, [.ref f0, .ref t0, .ref d1, .int pl])), (f0, .inr (3, [.ref f1, .int (nI KF)])), (f1, .inl (cI, 16, .inl ff)), (t0, .inr (3, [.ref t1, .int (nI KT)])), (t1, .inl (cI, 16, .inl tf)), (d1, .inl (cI, 16, .inl im))])) (kR (P_fitting ff KT tf im pl knot free)) 0 0 (fun _ => False) := by
  refine Met.ofW (cc := cX2_fitting) (maxL := 8) (ret := (some .int)) (by decide) rfl ?_
  intro p e s m args below meth c s₁ B hml hv
  obtain ⟨rfl, hP, hK, hD, hN⟩ := hv
  have hx := B.exec
  have hb := B.bytes
  have hr0 := B.returns
  have hts := atoms_spec (ws := wsX2_fitting) B.pre
  have hown : s.vm.findClass RX2 = some m.cls := findClass_of_methodNamed B.named
  have hlocks := B.notSynchronized
  have hS : va_S (fun _ => False) s.heap s.heap [] := va_S.rf
  have hl := lv_entry ([.ref d0, .int knot, .int free]) (n := 8) (Nat.le_of_ble_eq_true rfl)
  rw [lg_entry_eq]
  generalize (lg_sl ([.ref d0, .int knot, .int free]) ++ List.replicate (8 - (lg_sl ([.ref d0, .int knot, .int free])).length) Slot.unset).toArray = ls at hl ⊢
  have hl : lv_has ls 8 [(0, .ref d0), (1, .int knot), (2, .int free)] := hl
  obtain ⟨ρ, hρ⟩ : ∃ ρ : Int32, ρ = P_fitting ff KT tf im pl knot free := ⟨_, rfl⟩
  have hr : P_fitting ff KT tf im pl knot free = ρ := hρ.symm
  rewrite [P_fitting] at hr
  refine lv_aload_n hx hb dX2_fitting_0 rfl (lv_at hl 0 rfl) ?_
  refine va_get (D := (dC, dI)) (ci := 2) (v := .ref f0) (C := RX2) (T := TX2) (N := 4) hx hb hts (by decide +kernel) hown hK hP 0 rfl rfl 0 (by decide) (hts (.fieldLink RX2 12 "Shortring$Likeness" "from" "LShortring$Net;") (by decide +kernel)) (fun _ h9 => h9) rfl dX2_fitting_1 ?_
  refine lv_iload_n hx hb dX2_fitting_4 rfl (lv_at hl 1 rfl) ?_
  refine kCall (va_runVN (As := [.int knot]) (rest := []) ⟨hx, hb, hml, hown, hts⟩ (k_X3_nearOf l dC dI cI cN f0 f1 KF ff knot (by first | assumption | omega | exact Int32.le_refl _ | decide)) ⟨va_cnB 1 hts gX2_fitting_X3_nearOf_n89 rfl rfl rfl (hN.1 60 _ rfl) (hts (.initialized RX3) (by decide +kernel)) (by decide +kernel) ⟨Nat.le_of_ble_eq_true rfl, Nat.le_of_ble_eq_true rfl⟩, hts (.instanceMethod yX3_nearOf) (by decide +kernel), hts (.selects RX3 yX3_nearOf yX3_nearOf) (by decide +kernel)⟩ (kW_V hP hK hD hN (ci := 3) (q0 := 1) rfl rfl [1, 2] rfl rfl rfl) rfl rfl hl.1 rfl (lv_room (Nat.le_of_ble_eq_true rfl)) dX2_fitting_5 ⟨Nat.zero_le _, Nat.zero_le _⟩) hP hS (fun H locs hP hS => ?_)
  refine lv_topi (fun nearFrom_1 enearFrom_1 => ?_)
  have hr := bd_to hr enearFrom_1
  refine lv_istore_n (lv' := [(3, .int nearFrom_1), (0, .ref d0), (1, .int knot), (2, .int free)]) hx hb dX2_fitting_8 rfl hl (by decide) rfl (fun ls hl => ?_)
  refine lv_iload_n hx hb dX2_fitting_9 rfl (lv_at hl 0 rfl) ?_
  refine kCall (va_runS (As := [.int nearFrom_1]) (rest := []) ⟨hx, hb, hml, hown, hts⟩ (k_J6_bitCount_0f7a4 l dC dI cI cN nearFrom_1) (va_cwS 1 hts gX2_fitting_J6_bitCount_0f7a4 rfl rfl rfl (by decide +kernel) ⟨Nat.le_of_ble_eq_true rfl, Nat.le_of_ble_eq_true rfl⟩) (kW_S hP hK hD hN [] rfl rfl rfl) rfl rfl hl.1 rfl (lv_room (Nat.le_of_ble_eq_true rfl)) dX2_fitting_10 ⟨Nat.zero_le _, Nat.zero_le _⟩) hP hS (fun H locs hP hS => ?_)
  refine lv_topi (fun count_2 ecount_2 => ?_)
  have hr := bd_to hr ecount_2
  refine lv_istore (lv' := [(4, .int count_2), (3, .int nearFrom_1), (0, .ref d0), (1, .int knot), (2, .int free)]) hx hb dX2_fitting_13 hl (by decide) rfl (fun ls hl => ?_)
  refine lv_iconst (v := 0) hx hb dX2_fitting_15 (by decide) ?_
  refine lv_istore (lv' := [(5, .int 0), (4, .int count_2), (3, .int nearFrom_1), (0, .ref d0), (1, .int knot), (2, .int free)]) hx hb dX2_fitting_16 hl (by decide) rfl (fun ls hl => ?_)
  refine lv_iconst (v := 0) hx hb dX2_fitting_18 (by decide) ?_
  refine lv_istore (lv' := [(6, .int 0), (5, .int 0), (4, .int count_2), (3, .int nearFrom_1), (0, .ref d0), (1, .int knot), (2, .int free)]) hx hb dX2_fitting_19 hl (by decide) rfl (fun ls hl => ?_)
  have ex_21 : ∀ (fit : Int32) (nearFrom : Int32) (count : Int32) (H : Heap) (locs : List Loc) (ls : Array Slot), (L_fitting_78 tf im pl (fun fit nearFrom => fit) 16 0 fit nearFrom) = ρ → va_P (dC, dI) kCl [(d0, .inr (2, [.ref f0, .ref t0, .ref d1, .int pl])), (f0, .inr (3, [.ref f1, .int (nI KF)])), (f1, .inl (cI, 16, .inl ff)), (t0, .inr (3, [.ref t1, .int (nI KT)])), (t1, .inl (cI, 16, .inl tf)), (d1, .inl (cI, 16, .inl im))] H → va_S (fun _ => False) s.heap H locs → lv_has ls 8 [(5, .int fit), (3, .int nearFrom), (4, .int count), (0, .ref d0), (2, .int free)] → W p l e (headSpec wsX2_fitting rm_X2_fitting).room s m (([.ref d0, .int knot, .int free] : List Value).toArray) below meth c H locs 0 0 (MQ below (kR (P_fitting ff KT tf im pl knot free)) (([.ref d0, .int knot, .int free] : List Value).toArray) s 0 0 (fun _ => False)) (F0 m 75 ls []) := by
    intro fit nearFrom count H locs ls hr hP hS hl
    refine lv_iconst (v := 0) hx hb dX2_fitting_75 (by decide) ?_
    refine lv_istore (lv' := [(6, .int 0), (5, .int fit), (3, .int nearFrom), (4, .int count), (0, .ref d0), (2, .int free)]) hx hb dX2_fitting_76 hl (by decide) rfl (fun ls hl => ?_)
    have ex_78 : ∀ (fit : Int32) (nearFrom : Int32) (H : Heap) (locs : List Loc) (ls : Array Slot), (fit) = ρ → va_P (dC, dI) kCl [(d0, .inr (2, [.ref f0, .ref t0, .ref d1, .int pl])), (f0, .inr (3, [.ref f1, .int (nI KF)])), (f1, .inl (cI, 16, .inl ff)), (t0, .inr (3, [.ref t1, .int (nI KT)])), (t1, .inl (cI, 16, .inl tf)), (d1, .inl (cI, 16, .inl im))] H → va_S (fun _ => False) s.heap H locs → lv_has ls 8 [(5, .int fit), (3, .int nearFrom), (0, .ref d0)] → W p l e (headSpec wsX2_fitting rm_X2_fitting).room s m (([.ref d0, .int knot, .int free] : List Value).toArray) below meth c H locs 0 0 (MQ below (kR (P_fitting ff KT tf im pl knot free)) (([.ref d0, .int knot, .int free] : List Value).toArray) s 0 0 (fun _ => False)) (F0 m 145 ls []) := by
      intro fit nearFrom H locs ls hr hP hS hl
      refine lv_iload hx hb dX2_fitting_145 (lv_at hl 0 rfl) ?_
      have he := hr.trans hρ
      exact W.iret (v := fit) hx hb hr0 (fun t ht hW => kR_end he hS ht) hS.2.2 dX2_fitting_147
    have lp_78 : ∀ (n_78 other : Nat) (fit : Int32) (nearFrom : Int32) (H : Heap) (locs : List Loc) (ls : Array Slot), other + n_78 = 16 → L_fitting_78 tf im pl (fun fit nearFrom => fit) n_78 other fit nearFrom = ρ → va_P (dC, dI) kCl [(d0, .inr (2, [.ref f0, .ref t0, .ref d1, .int pl])), (f0, .inr (3, [.ref f1, .int (nI KF)])), (f1, .inl (cI, 16, .inl ff)), (t0, .inr (3, [.ref t1, .int (nI KT)])), (t1, .inl (cI, 16, .inl tf)), (d1, .inl (cI, 16, .inl im))] H → va_S (fun _ => False) s.heap H locs → lv_has ls 8 [(6, .int (nI other)), (5, .int fit), (3, .int nearFrom), (0, .ref d0)] → W p l e (headSpec wsX2_fitting rm_X2_fitting).room s m (([.ref d0, .int knot, .int free] : List Value).toArray) below meth c H locs 0 0 (MQ below (kR (P_fitting ff KT tf im pl knot free)) (([.ref d0, .int knot, .int free] : List Value).toArray) s 0 0 (fun _ => False)) (F0 m 78 ls []) := by
      intro n_78
      induction n_78 with
      | zero =>
        intro other fit nearFrom H locs ls hi hr hP hS hl
        rewrite [L_fitting_78] at hr
        refine lv_iload hx hb dX2_fitting_78 (lv_at hl 0 rfl) ?_
        refine lv_aload_n hx hb dX2_fitting_80 rfl (lv_at hl 3 rfl) ?_
        refine va_get (D := (dC, dI)) (ci := 2) (v := .ref d1) (C := RX2) (T := TX2) (N := 4) hx hb hts (by decide +kernel) hown hK hP 0 rfl rfl 2 (by decide) (hts (.fieldLink RX2 21 "Shortring$Likeness" "image" "[I") (by decide +kernel)) (fun _ h9 => h9) rfl dX2_fitting_81 ?_
        refine va_alen (v := 16) hx hb hK hP 5 0 rfl rfl rfl dX2_fitting_84 ?_
        refine lv_icmp_ge (tgt := 145) hx hb dX2_fitting_85 (by decide) (fun c_3 => ?_) (fun c_3 => ?_)
        · exact ex_78 fit nearFrom _ _ _ hr hP hS (lv_sub hl [1, 2, 3] rfl)
        · exact absurd (kTop (i := other) (N := 16) rfl (by omega)) c_3
      | succ n_78 ih_78 =>
        intro other fit nearFrom H locs ls hi hr hP hS hl
        rewrite [L_fitting_78] at hr
        refine lv_iload hx hb dX2_fitting_78 (lv_at hl 0 rfl) ?_
        refine lv_aload_n hx hb dX2_fitting_80 rfl (lv_at hl 3 rfl) ?_
        refine va_get (D := (dC, dI)) (ci := 2) (v := .ref d1) (C := RX2) (T := TX2) (N := 4) hx hb hts (by decide +kernel) hown hK hP 0 rfl rfl 2 (by decide) (hts (.fieldLink RX2 21 "Shortring$Likeness" "image" "[I") (by decide +kernel)) (fun _ h9 => h9) rfl dX2_fitting_81 ?_
        refine va_alen (v := 16) hx hb hK hP 5 0 rfl rfl rfl dX2_fitting_84 ?_
        refine lv_icmp_ge (tgt := 145) hx hb dX2_fitting_85 (by decide) (fun c_4 => ?_) (fun c_4 => ?_)
        · exact absurd c_4 (kLow (i := other) (N := 16) rfl (by omega) (by omega))
        · refine lv_aload_n hx hb dX2_fitting_88 rfl (lv_at hl 3 rfl) ?_
          refine va_get (D := (dC, dI)) (ci := 2) (v := .int pl) (C := RX2) (T := TX2) (N := 4) hx hb hts (by decide +kernel) hown hK hP 0 rfl rfl 3 (by decide) (hts (.fieldLink RX2 25 "Shortring$Likeness" "placed" "I") (by decide +kernel)) (fun _ h9 => h9) rfl dX2_fitting_89 ?_
          refine lv_iload hx hb dX2_fitting_92 (lv_at hl 0 rfl) ?_
          refine kCall (va_runSN (As := [.int pl, .int (nI other)]) (rest := []) ⟨hx, hb, hml, hown, hts⟩ (k_X6_holds l dC dI cI cN pl (nI other)) ⟨va_cnB 2 hts gX2_fitting_X6_holds_n36 rfl rfl rfl (hN.1 56 _ rfl) (hts (.initialized RX6) (by decide +kernel)) (by decide +kernel) ⟨Nat.le_of_ble_eq_true rfl, Nat.le_of_ble_eq_true rfl⟩, hts (.static yX6_holds) (by decide +kernel), trivial⟩ (kW_S hP hK hD hN [] rfl rfl rfl) rfl rfl hl.1 rfl (lv_room (Nat.le_of_ble_eq_true rfl)) dX2_fitting_94 ⟨Nat.zero_le _, Nat.zero_le _⟩) hP hS (fun H locs hP hS => ?_)
          refine lv_if_eq (tgt := 139) hx hb dX2_fitting_97 (by decide) (fun c_5 => ?_) (fun c_5 => ?_)
          · have hr := if_to hr c_5
            refine lv_iinc (v := nI (other + 1)) (lv' := [(6, .int (nI (other + 1))), (5, .int fit), (3, .int nearFrom), (0, .ref d0)]) hx hb dX2_fitting_139 hl (k := 0) rfl (nI_1 _) (by decide) rfl (fun ls hl => ?_)
            refine lv_goto (tgt := 78) hx hb dX2_fitting_142 (by decide) ?_
            exact ih_78 (other + 1) fit nearFrom _ _ _ (by omega) hr hP hS (lv_sub hl [0, 1, 2, 3] rfl)
          · have hr := if_no hr c_5
            refine lv_aload_n hx hb dX2_fitting_100 rfl (lv_at hl 3 rfl) ?_
            refine va_get (D := (dC, dI)) (ci := 2) (v := .ref t0) (C := RX2) (T := TX2) (N := 4) hx hb hts (by decide +kernel) hown hK hP 0 rfl rfl 1 (by decide) (hts (.fieldLink RX2 18 "Shortring$Likeness" "to" "LShortring$Net;") (by decide +kernel)) (fun _ h9 => h9) rfl dX2_fitting_101 ?_
            refine lv_aload_n hx hb dX2_fitting_104 rfl (lv_at hl 3 rfl) ?_
            refine va_get (D := (dC, dI)) (ci := 2) (v := .ref d1) (C := RX2) (T := TX2) (N := 4) hx hb hts (by decide +kernel) hown hK hP 0 rfl rfl 2 (by decide) (hts (.fieldLink RX2 21 "Shortring$Likeness" "image" "[I") (by decide +kernel)) (fun _ h9 => h9) rfl dX2_fitting_105 ?_
            refine lv_iload hx hb dX2_fitting_108 (lv_at hl 0 rfl) ?_
            refine va_iald hx hb hK hP 5 0 rfl rfl (vp_in_nI (by omega) (by omega)) dX2_fitting_110 ?_
            refine kRen (congrArg im (nI_clamp (by omega))) ?_
            refine kCall (va_runVN (As := [.int (im other)]) (rest := []) ⟨hx, hb, hml, hown, hts⟩ (k_X3_nearOf l dC dI cI cN t0 t1 KT tf (im other) (by first | assumption | omega | exact Int32.le_refl _ | decide)) ⟨va_cnB 1 hts gX2_fitting_X3_nearOf_n89 rfl rfl rfl (hN.1 60 _ rfl) (hts (.initialized RX3) (by decide +kernel)) (by decide +kernel) ⟨Nat.le_of_ble_eq_true rfl, Nat.le_of_ble_eq_true rfl⟩, hts (.instanceMethod yX3_nearOf) (by decide +kernel), hts (.selects RX3 yX3_nearOf yX3_nearOf) (by decide +kernel)⟩ (kW_V hP hK hD hN (ci := 3) (q0 := 3) rfl rfl [3, 4] rfl rfl rfl) rfl rfl hl.1 rfl (lv_room (Nat.le_of_ble_eq_true rfl)) dX2_fitting_111 ⟨Nat.zero_le _, Nat.zero_le _⟩) hP hS (fun H locs hP hS => ?_)
            refine lv_topi (fun nearTo_6 enearTo_6 => ?_)
            have hr := bd_to hr enearTo_6
            refine lv_istore (lv' := [(7, .int nearTo_6), (6, .int (nI other)), (5, .int fit), (3, .int nearFrom), (0, .ref d0)]) hx hb dX2_fitting_114 hl (by decide) rfl (fun ls hl => ?_)
            refine lv_iload hx hb dX2_fitting_116 (lv_at hl 2 rfl) ?_
            refine lv_iload_n hx hb dX2_fitting_118 rfl (lv_at hl 3 rfl) ?_
            refine lv_iload hx hb dX2_fitting_119 (lv_at hl 1 rfl) ?_
            refine kCall (va_runSN (As := [.int nearFrom, .int (nI other)]) (rest := [.int fit]) ⟨hx, hb, hml, hown, hts⟩ (k_X6_holds l dC dI cI cN nearFrom (nI other)) ⟨va_cnB 2 hts gX2_fitting_X6_holds_n36 rfl rfl rfl (hN.1 56 _ rfl) (hts (.initialized RX6) (by decide +kernel)) (by decide +kernel) ⟨Nat.le_of_ble_eq_true rfl, Nat.le_of_ble_eq_true rfl⟩, hts (.static yX6_holds) (by decide +kernel), trivial⟩ (kW_S hP hK hD hN [] rfl rfl rfl) rfl rfl hl.1 rfl (lv_room (Nat.le_of_ble_eq_true rfl)) dX2_fitting_121 ⟨Nat.zero_le _, Nat.zero_le _⟩) hP hS (fun H locs hP hS => ?_)
            refine lv_if_eq (tgt := 132) hx hb dX2_fitting_124 (by decide) (fun c_7 => ?_) (fun c_7 => ?_)
            · have hr := if_to hr c_7
              refine lv_iload hx hb dX2_fitting_132 (lv_at hl 0 rfl) ?_
              refine lv_iconst (v := (-1)) hx hb dX2_fitting_134 (by decide) ?_
              refine lv_ixor hx hb dX2_fitting_135 ?_
              refine lv_iand hx hb dX2_fitting_136 ?_
              refine lv_topi (fun fit_8 efit_8 => ?_)
              have hr := bd_to hr efit_8
              refine lv_istore (lv' := [(5, .int fit_8), (7, .int nearTo_6), (6, .int (nI other)), (3, .int nearFrom), (0, .ref d0)]) hx hb dX2_fitting_137 hl (by decide) rfl (fun ls hl => ?_)
              refine lv_iinc (v := nI (other + 1)) (lv' := [(6, .int (nI (other + 1))), (5, .int fit_8), (7, .int nearTo_6), (3, .int nearFrom), (0, .ref d0)]) hx hb dX2_fitting_139 hl (k := 2) rfl (nI_1 _) (by decide) rfl (fun ls hl => ?_)
              refine lv_goto (tgt := 78) hx hb dX2_fitting_142 (by decide) ?_
              exact ih_78 (other + 1) fit_8 nearFrom _ _ _ (by omega) hr hP hS (lv_sub hl [0, 1, 3, 4] rfl)
            · have hr := if_no hr c_7
              refine lv_iload hx hb dX2_fitting_127 (lv_at hl 0 rfl) ?_
              refine lv_goto (tgt := 136) hx hb dX2_fitting_129 (by decide) ?_
              refine lv_iand hx hb dX2_fitting_136 ?_
              refine lv_topi (fun fit_9 efit_9 => ?_)
              have hr := bd_to hr efit_9
              refine lv_istore (lv' := [(5, .int fit_9), (7, .int nearTo_6), (6, .int (nI other)), (3, .int nearFrom), (0, .ref d0)]) hx hb dX2_fitting_137 hl (by decide) rfl (fun ls hl => ?_)
              refine lv_iinc (v := nI (other + 1)) (lv' := [(6, .int (nI (other + 1))), (5, .int fit_9), (7, .int nearTo_6), (3, .int nearFrom), (0, .ref d0)]) hx hb dX2_fitting_139 hl (k := 2) rfl (nI_1 _) (by decide) rfl (fun ls hl => ?_)
              refine lv_goto (tgt := 78) hx hb dX2_fitting_142 (by decide) ?_
              exact ih_78 (other + 1) fit_9 nearFrom _ _ _ (by omega) hr hP hS (lv_sub hl [0, 1, 3, 4] rfl)
    exact lp_78 16 0 fit nearFrom _ _ _ (by omega) hr hP hS (lv_sub hl [0, 1, 2, 4] rfl)
  have lp_21 : ∀ (n_21 place : Nat) (fit : Int32) (nearFrom : Int32) (count : Int32) (H : Heap) (locs : List Loc) (ls : Array Slot), place + n_21 = KT → L_fitting_21 ff KT tf im pl knot free (fun fit nearFrom count => L_fitting_78 tf im pl (fun fit nearFrom => fit) 16 0 fit nearFrom) n_21 place fit nearFrom count = ρ → va_P (dC, dI) kCl [(d0, .inr (2, [.ref f0, .ref t0, .ref d1, .int pl])), (f0, .inr (3, [.ref f1, .int (nI KF)])), (f1, .inl (cI, 16, .inl ff)), (t0, .inr (3, [.ref t1, .int (nI KT)])), (t1, .inl (cI, 16, .inl tf)), (d1, .inl (cI, 16, .inl im))] H → va_S (fun _ => False) s.heap H locs → lv_has ls 8 [(6, .int (nI place)), (5, .int fit), (3, .int nearFrom), (4, .int count), (0, .ref d0), (2, .int free)] → W p l e (headSpec wsX2_fitting rm_X2_fitting).room s m (([.ref d0, .int knot, .int free] : List Value).toArray) below meth c H locs 0 0 (MQ below (kR (P_fitting ff KT tf im pl knot free)) (([.ref d0, .int knot, .int free] : List Value).toArray) s 0 0 (fun _ => False)) (F0 m 21 ls []) := by
    intro n_21
    induction n_21 with
    | zero =>
      intro place fit nearFrom count H locs ls hi hr hP hS hl
      rewrite [L_fitting_21] at hr
      refine lv_iload hx hb dX2_fitting_21 (lv_at hl 0 rfl) ?_
      refine lv_aload_n hx hb dX2_fitting_23 rfl (lv_at hl 4 rfl) ?_
      refine va_get (D := (dC, dI)) (ci := 2) (v := .ref t0) (C := RX2) (T := TX2) (N := 4) hx hb hts (by decide +kernel) hown hK hP 0 rfl rfl 1 (by decide) (hts (.fieldLink RX2 18 "Shortring$Likeness" "to" "LShortring$Net;") (by decide +kernel)) (fun _ h9 => h9) rfl dX2_fitting_24 ?_
      refine va_getN (D := (dC, dI)) (ci := 3) (v := .int (nI KT)) (C := RX3) (T := TX3) (N := 2) hx hb hts (by decide +kernel) hown hK hP 3 rfl rfl 1 (by decide) (va_Nw.use rfl (hN.2 10 _ rfl)) (fun _ h9 => h9) rfl dX2_fitting_27 ?_
      refine lv_icmp_ge (tgt := 75) hx hb dX2_fitting_30 (by decide) (fun c_10 => ?_) (fun c_10 => ?_)
      · exact ex_21 fit nearFrom count _ _ _ hr hP hS (lv_sub hl [1, 2, 3, 4, 5] rfl)
      · exact absurd (kTop (i := place) (N := KT) rfl (by omega)) c_10
    | succ n_21 ih_21 =>
      intro place fit nearFrom count H locs ls hi hr hP hS hl
      rewrite [L_fitting_21] at hr
      refine lv_iload hx hb dX2_fitting_21 (lv_at hl 0 rfl) ?_
      refine lv_aload_n hx hb dX2_fitting_23 rfl (lv_at hl 4 rfl) ?_
      refine va_get (D := (dC, dI)) (ci := 2) (v := .ref t0) (C := RX2) (T := TX2) (N := 4) hx hb hts (by decide +kernel) hown hK hP 0 rfl rfl 1 (by decide) (hts (.fieldLink RX2 18 "Shortring$Likeness" "to" "LShortring$Net;") (by decide +kernel)) (fun _ h9 => h9) rfl dX2_fitting_24 ?_
      refine va_getN (D := (dC, dI)) (ci := 3) (v := .int (nI KT)) (C := RX3) (T := TX3) (N := 2) hx hb hts (by decide +kernel) hown hK hP 3 rfl rfl 1 (by decide) (va_Nw.use rfl (hN.2 10 _ rfl)) (fun _ h9 => h9) rfl dX2_fitting_27 ?_
      refine lv_icmp_ge (tgt := 75) hx hb dX2_fitting_30 (by decide) (fun c_11 => ?_) (fun c_11 => ?_)
      · exact absurd c_11 (kLow (i := place) (N := KT) rfl (by omega) (by omega))
      · refine lv_iload_n hx hb dX2_fitting_33 rfl (lv_at hl 5 rfl) ?_
        refine lv_iload hx hb dX2_fitting_34 (lv_at hl 0 rfl) ?_
        refine kCall (va_runSN (As := [.int free, .int (nI place)]) (rest := []) ⟨hx, hb, hml, hown, hts⟩ (k_X6_holds l dC dI cI cN free (nI place)) ⟨va_cnB 2 hts gX2_fitting_X6_holds_n36 rfl rfl rfl (hN.1 56 _ rfl) (hts (.initialized RX6) (by decide +kernel)) (by decide +kernel) ⟨Nat.le_of_ble_eq_true rfl, Nat.le_of_ble_eq_true rfl⟩, hts (.static yX6_holds) (by decide +kernel), trivial⟩ (kW_S hP hK hD hN [] rfl rfl rfl) rfl rfl hl.1 rfl (lv_room (Nat.le_of_ble_eq_true rfl)) dX2_fitting_36 ⟨Nat.zero_le _, Nat.zero_le _⟩) hP hS (fun H locs hP hS => ?_)
        refine lv_if_eq (tgt := 69) hx hb dX2_fitting_39 (by decide) (fun c_12 => ?_) (fun c_12 => ?_)
        · have hr := if_to hr c_12
          refine lv_iinc (v := nI (place + 1)) (lv' := [(6, .int (nI (place + 1))), (5, .int fit), (3, .int nearFrom), (4, .int count), (0, .ref d0), (2, .int free)]) hx hb dX2_fitting_69 hl (k := 0) rfl (nI_1 _) (by decide) rfl (fun ls hl => ?_)
          refine lv_goto (tgt := 21) hx hb dX2_fitting_72 (by decide) ?_
          exact ih_21 (place + 1) fit nearFrom count _ _ _ (by omega) hr hP hS (lv_sub hl [0, 1, 2, 3, 4, 5] rfl)
        · have hr := if_no hr c_12
          refine lv_aload_n hx hb dX2_fitting_42 rfl (lv_at hl 4 rfl) ?_
          refine va_get (D := (dC, dI)) (ci := 2) (v := .ref t0) (C := RX2) (T := TX2) (N := 4) hx hb hts (by decide +kernel) hown hK hP 0 rfl rfl 1 (by decide) (hts (.fieldLink RX2 18 "Shortring$Likeness" "to" "LShortring$Net;") (by decide +kernel)) (fun _ h9 => h9) rfl dX2_fitting_43 ?_
          refine lv_iload hx hb dX2_fitting_46 (lv_at hl 0 rfl) ?_
          refine kCall (va_runVN (As := [.int (nI place)]) (rest := []) ⟨hx, hb, hml, hown, hts⟩ (k_X3_nearOf l dC dI cI cN t0 t1 KT tf (nI place) (by first | assumption | omega | exact Int32.le_refl _ | decide)) ⟨va_cnB 1 hts gX2_fitting_X3_nearOf_n89 rfl rfl rfl (hN.1 60 _ rfl) (hts (.initialized RX3) (by decide +kernel)) (by decide +kernel) ⟨Nat.le_of_ble_eq_true rfl, Nat.le_of_ble_eq_true rfl⟩, hts (.instanceMethod yX3_nearOf) (by decide +kernel), hts (.selects RX3 yX3_nearOf yX3_nearOf) (by decide +kernel)⟩ (kW_V hP hK hD hN (ci := 3) (q0 := 3) rfl rfl [3, 4] rfl rfl rfl) rfl rfl hl.1 rfl (lv_room (Nat.le_of_ble_eq_true rfl)) dX2_fitting_48 ⟨Nat.zero_le _, Nat.zero_le _⟩) hP hS (fun H locs hP hS => ?_)
          refine kCall (va_runS (As := [.int (P_nearOf tf (nI place))]) (rest := []) ⟨hx, hb, hml, hown, hts⟩ (k_J6_bitCount_0f7a4 l dC dI cI cN (P_nearOf tf (nI place))) (va_cwS 1 hts gX2_fitting_J6_bitCount_0f7a4 rfl rfl rfl (by decide +kernel) ⟨Nat.le_of_ble_eq_true rfl, Nat.le_of_ble_eq_true rfl⟩) (kW_S hP hK hD hN [] rfl rfl rfl) rfl rfl hl.1 rfl (lv_room (Nat.le_of_ble_eq_true rfl)) dX2_fitting_51 ⟨Nat.zero_le _, Nat.zero_le _⟩) hP hS (fun H locs hP hS => ?_)
          refine lv_iload hx hb dX2_fitting_54 (lv_at hl 3 rfl) ?_
          refine lv_icmp_ne (tgt := 69) hx hb dX2_fitting_56 (by decide) (fun c_13 => ?_) (fun c_13 => ?_)
          · have hr := if_no hr c_13
            refine lv_iinc (v := nI (place + 1)) (lv' := [(6, .int (nI (place + 1))), (5, .int fit), (3, .int nearFrom), (4, .int count), (0, .ref d0), (2, .int free)]) hx hb dX2_fitting_69 hl (k := 0) rfl (nI_1 _) (by decide) rfl (fun ls hl => ?_)
            refine lv_goto (tgt := 21) hx hb dX2_fitting_72 (by decide) ?_
            exact ih_21 (place + 1) fit nearFrom count _ _ _ (by omega) hr hP hS (lv_sub hl [0, 1, 2, 3, 4, 5] rfl)
          · have hr := if_to hr c_13
            refine lv_iload hx hb dX2_fitting_59 (lv_at hl 1 rfl) ?_
            refine lv_iload hx hb dX2_fitting_61 (lv_at hl 0 rfl) ?_
            refine kCall (va_runSN (As := [.int (nI place)]) (rest := [.int fit]) ⟨hx, hb, hml, hown, hts⟩ (k_X6_bit l dC dI cI cN (nI place)) ⟨va_cnB 1 hts gX2_fitting_X6_bit_n63 rfl rfl rfl (hN.1 59 _ rfl) (hts (.initialized RX6) (by decide +kernel)) (by decide +kernel) ⟨Nat.le_of_ble_eq_true rfl, Nat.le_of_ble_eq_true rfl⟩, hts (.static yX6_bit) (by decide +kernel), trivial⟩ (kW_S hP hK hD hN [] rfl rfl rfl) rfl rfl hl.1 rfl (lv_room (Nat.le_of_ble_eq_true rfl)) dX2_fitting_63 ⟨Nat.zero_le _, Nat.zero_le _⟩) hP hS (fun H locs hP hS => ?_)
            refine lv_ior hx hb dX2_fitting_66 ?_
            refine lv_topi (fun fit_14 efit_14 => ?_)
            have hr := bd_to hr efit_14
            refine lv_istore (lv' := [(5, .int fit_14), (6, .int (nI place)), (3, .int nearFrom), (4, .int count), (0, .ref d0), (2, .int free)]) hx hb dX2_fitting_67 hl (by decide) rfl (fun ls hl => ?_)
            refine lv_iinc (v := nI (place + 1)) (lv' := [(6, .int (nI (place + 1))), (5, .int fit_14), (3, .int nearFrom), (4, .int count), (0, .ref d0), (2, .int free)]) hx hb dX2_fitting_69 hl (k := 1) rfl (nI_1 _) (by decide) rfl (fun ls hl => ?_)
            refine lv_goto (tgt := 21) hx hb dX2_fitting_72 (by decide) ?_
            exact ih_21 (place + 1) fit_14 nearFrom count _ _ _ (by omega) hr hP hS (lv_sub hl [0, 1, 2, 3, 4, 5] rfl)
  exact lp_21 KT 0 0 nearFrom_1 count_2 _ _ _ (by omega) hr hP hS (lv_sub hl [0, 1, 3, 2, 4, 6] rfl)
def P_place (im : Nat → Int32) (pl : Int32) (knot : Int32) (place : Int32) : (Nat → Int32) × Int32 :=
  if knot < 0 then
    (im, pl)
  else
    if (16 : Int32) ≤ knot then
      (im, pl)
    else
      (upd im (knot).toNatClampNeg place, pl ||| (P_bit knot))
abbrev rm_X2_place : Room := { frames := 1, cells := 0, slots := 0, locals := 20 }
set_option maxHeartbeats 4000000 in
set_option maxRecDepth 100000 in
theorem k_X2_place (l : Launch) (dC : Nat → ClassId) (dI : Nat → Nat → Nat) (cI cN : ClassId) (d0 : Nat) (f0 : Nat) (f1 : Nat) (t0 : Nat) (t1 : Nat) (d1 : Nat) (KF : Nat) (ff : Nat → Int32) (KT : Nat) (tf : Nat → Int32) (im : Nat → Int32) (pl : Int32) (knot : Int32) (place : Int32) (hKF : KF ≤ 16) (hKT : KT ≤ 16) (sz : Nat) : Met l yX2_place wsX2_place rm_X2_place (va_Pc [.ref d0, .int knot, .int place] (kU dC dI cI cN [(d0, .inr (2, [.ref f0, .ref t0, .ref d1, .int pl])), (f0, .inr (3, [.ref f1, .int (nI KF)])), (f1, .inl (cI, 16, .inl ff)), (t0, .inr (3, [.ref t1, .int (nI KT)])), (t1, .inl (cI, 16, .inl tf)), (d1, .inl (cI, 16, .inl im))] sz)) (kV dC dI [(d0, .inr (2, [.ref f0, .ref t0, .ref d1, .int ((P_place im pl knot place).2)])), (f0, .inr (3, [.ref f1, .int (nI KF)])), (f1, .inl (cI, 16, .inl ff)), (t0, .inr (3, [.ref t1, .int (nI KT)])), (t1, .inl (cI, 16, .inl tf)), (d1, .inl (cI, 16, .inl ((P_place im pl knot place).1)))] (va_A [(d0, .inr (2, [.ref f0, .ref t0, .ref d1, .int pl])), (f0, .inr (3, [.ref f1, .int (nI KF)])), (f1, .inl (cI, 16, .inl ff)), (t0, .inr (3, [.ref t1, .int (nI KT)])), (t1, .inl (cI, 16, .inl tf)), (d1, .inl (cI, 16, .inl im))] sz)) 0 0 (va_A [(d0, .inr (2, [.ref f0, .ref t0, .ref d1, .int pl])), (f0, .inr (3, [.ref f1, .int (nI KF)])), (f1, .inl (cI, 16, .inl ff)), (t0, .inr (3, [.ref t1, .int (nI KT)])), (t1, .inl (cI, 16, .inl tf)), (d1, .inl (cI, 16, .inl im))] sz) := by
  refine Met.ofW (cc := cX2_place) (maxL := 3) (ret := none) (by decide) rfl ?_
  intro p e s m args below meth c s₁ B hml hv
  obtain ⟨rfl, hsz, hP, hK, hD0, hN⟩ := hv
  have hx := B.exec
  have hb := B.bytes
  have hr0 := B.returns
  have hts := atoms_spec (ws := wsX2_place) B.pre
  have hown : s.vm.findClass RX2 = some m.cls := findClass_of_methodNamed B.named
  have hlocks := B.notSynchronized
  subst hsz
  have hD := hD0.self (sz := s.heap.size)
  generalize hAe : va_A [(d0, .inr (2, [.ref f0, .ref t0, .ref d1, .int pl])), (f0, .inr (3, [.ref f1, .int (nI KF)])), (f1, .inl (cI, 16, .inl ff)), (t0, .inr (3, [.ref t1, .int (nI KT)])), (t1, .inl (cI, 16, .inl tf)), (d1, .inl (cI, 16, .inl im))] s.heap.size = A at hD ⊢
  have hA : ∀ q : Nat, s.heap.size ≤ q → A q := fun q h => by rw [← hAe]; exact Or.inr h
  have hS : va_S A s.heap s.heap [] := va_S.rf
  have hl := lv_entry ([.ref d0, .int knot, .int place]) (n := 3) (Nat.le_of_ble_eq_true rfl)
  rw [lg_entry_eq]
  generalize (lg_sl ([.ref d0, .int knot, .int place]) ++ List.replicate (3 - (lg_sl ([.ref d0, .int knot, .int place])).length) Slot.unset).toArray = ls at hl ⊢
  have hl : lv_has ls 3 [(0, .ref d0), (1, .int knot), (2, .int place)] := hl
  obtain ⟨ρ, hρ⟩ : ∃ ρ : (Nat → Int32) × Int32, ρ = P_place im pl knot place := ⟨_, rfl⟩
  have hr : P_place im pl knot place = ρ := hρ.symm
  rewrite [P_place] at hr
  refine lv_iload_n hx hb dX2_place_0 rfl (lv_at hl 1 rfl) ?_
  refine lv_if_lt (tgt := 33) hx hb dX2_place_1 (by decide) (fun c_1 => ?_) (fun c_1 => ?_)
  · have hr := if_to hr c_1
    have he := hr.trans hρ
    exact W.vret hx hb hr0 (fun t ht hW => kV_end (by rw [← he]; exact hP) hS ht) hS.2.2 dX2_place_33
  · have hr := if_no hr c_1
    refine lv_iload_n hx hb dX2_place_4 rfl (lv_at hl 1 rfl) ?_
    refine lv_aload_n hx hb dX2_place_5 rfl (lv_at hl 0 rfl) ?_
    refine va_get (D := (dC, dI)) (ci := 2) (v := .ref d1) (C := RX2) (T := TX2) (N := 4) hx hb hts (by decide +kernel) hown hK hP 0 rfl rfl 2 (by decide) (hts (.fieldLink RX2 21 "Shortring$Likeness" "image" "[I") (by decide +kernel)) (fun _ h9 => h9) rfl dX2_place_6 ?_
    refine va_alen (v := 16) hx hb hK hP 5 0 rfl rfl rfl dX2_place_9 ?_
    refine lv_icmp_ge (tgt := 33) hx hb dX2_place_10 (by decide) (fun c_2 => ?_) (fun c_2 => ?_)
    · have hr := if_to hr c_2
      have he := hr.trans hρ
      exact W.vret hx hb hr0 (fun t ht hW => kV_end (by rw [← he]; exact hP) hS ht) hS.2.2 dX2_place_33
    · have hr := if_no hr c_2
      refine lv_aload_n hx hb dX2_place_13 rfl (lv_at hl 0 rfl) ?_
      refine va_get (D := (dC, dI)) (ci := 2) (v := .ref d1) (C := RX2) (T := TX2) (N := 4) hx hb hts (by decide +kernel) hown hK hP 0 rfl rfl 2 (by decide) (hts (.fieldLink RX2 21 "Shortring$Likeness" "image" "[I") (by decide +kernel)) (fun _ h9 => h9) rfl dX2_place_14 ?_
      refine lv_iload_n hx hb dX2_place_17 rfl (lv_at hl 1 rfl) ?_
      refine lv_iload_n hx hb dX2_place_18 rfl (lv_at hl 2 rfl) ?_
      refine va_iast hx hb hK hP hD hS 5 0 rfl rfl (kIn (N := 16) (by decide) (by assumption) (by assumption)) dX2_place_19 (fun H locs hP hD hS => ?_)
      have hP : va_P (dC, dI) kCl [(d0, .inr (2, [.ref f0, .ref t0, .ref d1, .int pl])), (f0, .inr (3, [.ref f1, .int (nI KF)])), (f1, .inl (cI, 16, .inl ff)), (t0, .inr (3, [.ref t1, .int (nI KT)])), (t1, .inl (cI, 16, .inl tf)), (d1, .inl (cI, 16, .inl (upd im (knot).toNatClampNeg place)))] H := hP
      have hD : va_D A [(d0, .inr (2, [.ref f0, .ref t0, .ref d1, .int pl])), (f0, .inr (3, [.ref f1, .int (nI KF)])), (f1, .inl (cI, 16, .inl ff)), (t0, .inr (3, [.ref t1, .int (nI KT)])), (t1, .inl (cI, 16, .inl tf)), (d1, .inl (cI, 16, .inl (upd im (knot).toNatClampNeg place)))] := hD
      refine lv_aload_n hx hb dX2_place_20 rfl (lv_at hl 0 rfl) ?_
      refine lv_dup hx hb dX2_place_21 rfl ?_
      refine va_get (D := (dC, dI)) (ci := 2) (v := .int pl) (C := RX2) (T := TX2) (N := 4) hx hb hts (by decide +kernel) hown hK hP 0 rfl rfl 3 (by decide) (hts (.fieldLink RX2 25 "Shortring$Likeness" "placed" "I") (by decide +kernel)) (fun _ h9 => h9) rfl dX2_place_22 ?_
      refine lv_iload_n hx hb dX2_place_25 rfl (lv_at hl 1 rfl) ?_
      refine kCall (va_runSN (As := [.int knot]) (rest := [.int pl, .ref d0]) ⟨hx, hb, hml, hown, hts⟩ (k_X6_bit l dC dI cI cN knot) ⟨va_cnB 1 hts gX2_place_X6_bit_n63 rfl rfl rfl (hN.1 59 _ rfl) (hts (.initialized RX6) (by decide +kernel)) (by decide +kernel) ⟨Nat.le_of_ble_eq_true rfl, Nat.le_of_ble_eq_true rfl⟩, hts (.static yX6_bit) (by decide +kernel), trivial⟩ (kW_S hP hK hD hN [] rfl rfl rfl) rfl rfl hl.1 rfl (lv_room (Nat.le_of_ble_eq_true rfl)) dX2_place_26 ⟨Nat.zero_le _, Nat.zero_le _⟩) hP hS (fun H locs hP hS => ?_)
      refine lv_ior hx hb dX2_place_29 ?_
      refine va_put (D := (dC, dI)) (ci := 2) (v := .int (pl ||| (P_bit knot))) (ty := .int) (C := RX2) (T := TX2) (N := 4) hx hb hts (by decide +kernel) tyX2 tyX2_ok nmX2 hown hK hP hD hS 0 rfl rfl 3 (by decide) (hts (.fieldLink RX2 25 "Shortring$Likeness" "placed" "I") (by decide +kernel)) (fun _ h9 => h9) rfl (by decide +kernel) rfl rfl (Nat.le_of_ble_eq_true rfl) dX2_place_30 (fun H locs hP hD hS => ?_)
      have hP : va_P (dC, dI) kCl [(d0, .inr (2, [.ref f0, .ref t0, .ref d1, .int (pl ||| (P_bit knot))])), (f0, .inr (3, [.ref f1, .int (nI KF)])), (f1, .inl (cI, 16, .inl ff)), (t0, .inr (3, [.ref t1, .int (nI KT)])), (t1, .inl (cI, 16, .inl tf)), (d1, .inl (cI, 16, .inl (upd im (knot).toNatClampNeg place)))] H := hP
      have hD : va_D A [(d0, .inr (2, [.ref f0, .ref t0, .ref d1, .int (pl ||| (P_bit knot))])), (f0, .inr (3, [.ref f1, .int (nI KF)])), (f1, .inl (cI, 16, .inl ff)), (t0, .inr (3, [.ref t1, .int (nI KT)])), (t1, .inl (cI, 16, .inl tf)), (d1, .inl (cI, 16, .inl (upd im (knot).toNatClampNeg place)))] := hD
      have he := hr.trans hρ
      exact W.vret hx hb hr0 (fun t ht hW => kV_end (by rw [← he]; exact hP) hS ht) hS.2.2 dX2_place_33
def L_ways_37 (left : Int32) (free : Int32) (most : Int32) (rc : Int32 → Int32 → Int32 → (Nat → Int32) → Int32 → Int32 × (Nat → Int32) × Int32) (k : Int32 → Int32 → Int32 → (Nat → Int32) → Int32 → Int32 × (Nat → Int32) × Int32) : Nat → Nat → Int32 → Int32 → Int32 → (Nat → Int32) → Int32 → Int32 × (Nat → Int32) × Int32
  | 0, place, knot, fit, many, ia, pa => k knot fit many ia pa
  | n + 1, place, knot, fit, many, ia, pa =>
    if most ≤ many then
      k knot fit many ia pa
    else
      if (P_holds fit (nI place)) = 0 then
        L_ways_37 left free most (rc) k n (place + 1) knot fit many ia pa
      else
        bd (P_place ia pa knot (nI place)) (fun r_1 =>
          bd (rc (left &&& ((P_bit knot) ^^^ (-1 : Int32))) (free &&& ((P_bit (nI place)) ^^^ (-1 : Int32))) (most - many) r_1.1 r_1.2) (fun r_2 =>
            bd (many + r_2.1) (fun many_3 =>
              L_ways_37 left free most (rc) k n (place + 1) knot fit many_3 r_2.2.1 (r_2.2.2 &&& ((P_bit knot) ^^^ (-1 : Int32))))))
def P_ways (ff : Nat → Int32) (KF KT : Nat) (tf : Nat → Int32) : Nat → Int32 → Int32 → Int32 → (Nat → Int32) → Int32 → Int32 × (Nat → Int32) × Int32
  | 0, left, free, most, im, pl =>
    if left = 0 then
      (1, im, pl)
    else
      (0, im, pl)
  | n + 1, left, free, most, im, pl =>
    if left = 0 then
      (1, im, pl)
    else
      bd (P_nextToPlace KF ff pl left) (fun knot_5 =>
        bd (P_fitting ff KT tf im pl knot_5 free) (fun fit_6 =>
          L_ways_37 left free most ((P_ways ff KF KT tf n)) (fun knot fit many ia pa => (many, ia, pa)) KT 0 knot_5 fit_6 0 im pl))
abbrev rm_X2_ways (n : Nat) : Room := { frames := 2 + n, cells := 0, slots := 0, locals := 48 + 28 * n }
set_option maxHeartbeats 8000000 in
set_option maxRecDepth 100000 in
theorem k_X2_ways (l : Launch) (dC : Nat → ClassId) (dI : Nat → Nat → Nat) (cI cN : ClassId) (d0 f0 f1 t0 t1 d1 : Nat) (KF : Nat) (ff : Nat → Int32) (KT : Nat) (tf : Nat → Int32) (hKF : KF ≤ 16) (hKT : KT ≤ 16) : ∀ (n : Nat) (left : Int32) (free : Int32) (most : Int32) (im : Nat → Int32) (pl : Int32) (dp : Nat) (sz : Nat), dp + n = 16 → Met l yX2_ways wsX2_ways (rm_X2_ways n) (va_Pc [.ref d0, .int left, .int free, .int most, .int (nI dp)] (kU dC dI cI cN [(d0, .inr (2, [.ref f0, .ref t0, .ref d1, .int pl])), (f0, .inr (3, [.ref f1, .int (nI KF)])), (f1, .inl (cI, 16, .inl ff)), (t0, .inr (3, [.ref t1, .int (nI KT)])), (t1, .inl (cI, 16, .inl tf)), (d1, .inl (cI, 16, .inl im))] sz)) (kVi dC dI (P_ways ff KF KT tf n left free most im pl).1 [(d0, .inr (2, [.ref f0, .ref t0, .ref d1, .int ((P_ways ff KF KT tf n left free most im pl).2.2)])), (f0, .inr (3, [.ref f1, .int (nI KF)])), (f1, .inl (cI, 16, .inl ff)), (t0, .inr (3, [.ref t1, .int (nI KT)])), (t1, .inl (cI, 16, .inl tf)), (d1, .inl (cI, 16, .inl ((P_ways ff KF KT tf n left free most im pl).2.1)))] (va_A [(d0, .inr (2, [.ref f0, .ref t0, .ref d1, .int pl])), (f0, .inr (3, [.ref f1, .int (nI KF)])), (f1, .inl (cI, 16, .inl ff)), (t0, .inr (3, [.ref t1, .int (nI KT)])), (t1, .inl (cI, 16, .inl tf)), (d1, .inl (cI, 16, .inl im))] sz)) 0 0 (va_A [(d0, .inr (2, [.ref f0, .ref t0, .ref d1, .int pl])), (f0, .inr (3, [.ref f1, .int (nI KF)])), (f1, .inl (cI, 16, .inl ff)), (t0, .inr (3, [.ref t1, .int (nI KT)])), (t1, .inl (cI, 16, .inl tf)), (d1, .inl (cI, 16, .inl im))] sz) := by
  intro n
  induction n with
  | zero =>
    intro left free most im pl dp sz hdp
    refine Met.ofW (cc := cX2_ways) (maxL := 9) (ret := (some .int)) (by decide) rfl ?_
    intro p e s m args below meth c s₁ B hml hv
    obtain ⟨rfl, hsz, hP, hK, hD0, hN⟩ := hv
    have hx := B.exec
    have hb := B.bytes
    have hr0 := B.returns
    have hts := atoms_spec (ws := wsX2_ways) B.pre
    have hown : s.vm.findClass RX2 = some m.cls := findClass_of_methodNamed B.named
    have hlocks := B.notSynchronized
    subst hsz
    have hD := hD0.self (sz := s.heap.size)
    generalize hAe : va_A [(d0, .inr (2, [.ref f0, .ref t0, .ref d1, .int pl])), (f0, .inr (3, [.ref f1, .int (nI KF)])), (f1, .inl (cI, 16, .inl ff)), (t0, .inr (3, [.ref t1, .int (nI KT)])), (t1, .inl (cI, 16, .inl tf)), (d1, .inl (cI, 16, .inl im))] s.heap.size = A at hD ⊢
    have hA : ∀ q : Nat, s.heap.size ≤ q → A q := fun q h => by rw [← hAe]; exact Or.inr h
    have hS : va_S A s.heap s.heap [] := va_S.rf
    have hl := lv_entry ([.ref d0, .int left, .int free, .int most, .int (nI dp)]) (n := 9) (Nat.le_of_ble_eq_true rfl)
    rw [lg_entry_eq]
    generalize (lg_sl ([.ref d0, .int left, .int free, .int most, .int (nI dp)]) ++ List.replicate (9 - (lg_sl ([.ref d0, .int left, .int free, .int most, .int (nI dp)])).length) Slot.unset).toArray = ls at hl ⊢
    have hl : lv_has ls 9 [(0, .ref d0), (1, .int left), (2, .int free), (3, .int most), (4, .int (nI dp))] := hl
    obtain ⟨ρ, hρ⟩ : ∃ ρ : Int32 × (Nat → Int32) × Int32, ρ = P_ways ff KF KT tf 0 left free most im pl := ⟨_, rfl⟩
    have hr : P_ways ff KF KT tf 0 left free most im pl = ρ := hρ.symm
    rewrite [P_ways] at hr
    refine lv_iload_n hx hb dX2_ways_0 rfl (lv_at hl 1 rfl) ?_
    refine lv_if_ne (tgt := 6) hx hb dX2_ways_1 (by decide) (fun c_1 => ?_) (fun c_1 => ?_)
    · have hr := if_no hr c_1
      refine lv_iload hx hb dX2_ways_6 (lv_at hl 4 rfl) ?_
      refine lv_bipush (v := 16) hx hb dX2_ways_8 (by decide) ?_
      refine lv_icmp_lt (tgt := 15) hx hb dX2_ways_10 (by decide) (fun c_2 => ?_) (fun c_2 => ?_)
      · exact absurd c_2 (kDepth0 (by omega))
      · refine lv_iconst (v := 0) hx hb dX2_ways_13 (by decide) ?_
        have he := hr.trans hρ
        exact W.iret (v := 0) hx hb hr0 (fun t ht hW => kVi_end (by rw [← he]) (by rw [← he]; exact hP) hS ht) hS.2.2 dX2_ways_14
    · have hr := if_to hr c_1
      refine lv_iconst (v := 1) hx hb dX2_ways_4 (by decide) ?_
      have he := hr.trans hρ
      exact W.iret (v := 1) hx hb hr0 (fun t ht hW => kVi_end (by rw [← he]) (by rw [← he]; exact hP) hS ht) hS.2.2 dX2_ways_5
  | succ n ih_rec =>
    intro left free most im pl dp sz hdp
    refine Met.ofW (cc := cX2_ways) (maxL := 9) (ret := (some .int)) (by decide) rfl ?_
    intro p e s m args below meth c s₁ B hml hv
    obtain ⟨rfl, hsz, hP, hK, hD0, hN⟩ := hv
    have hx := B.exec
    have hb := B.bytes
    have hr0 := B.returns
    have hts := atoms_spec (ws := wsX2_ways) B.pre
    have hown : s.vm.findClass RX2 = some m.cls := findClass_of_methodNamed B.named
    have hlocks := B.notSynchronized
    subst hsz
    have hD := hD0.self (sz := s.heap.size)
    generalize hAe : va_A [(d0, .inr (2, [.ref f0, .ref t0, .ref d1, .int pl])), (f0, .inr (3, [.ref f1, .int (nI KF)])), (f1, .inl (cI, 16, .inl ff)), (t0, .inr (3, [.ref t1, .int (nI KT)])), (t1, .inl (cI, 16, .inl tf)), (d1, .inl (cI, 16, .inl im))] s.heap.size = A at hD ⊢
    have hA : ∀ q : Nat, s.heap.size ≤ q → A q := fun q h => by rw [← hAe]; exact Or.inr h
    have hS : va_S A s.heap s.heap [] := va_S.rf
    have hl := lv_entry ([.ref d0, .int left, .int free, .int most, .int (nI dp)]) (n := 9) (Nat.le_of_ble_eq_true rfl)
    rw [lg_entry_eq]
    generalize (lg_sl ([.ref d0, .int left, .int free, .int most, .int (nI dp)]) ++ List.replicate (9 - (lg_sl ([.ref d0, .int left, .int free, .int most, .int (nI dp)])).length) Slot.unset).toArray = ls at hl ⊢
    have hl : lv_has ls 9 [(0, .ref d0), (1, .int left), (2, .int free), (3, .int most), (4, .int (nI dp))] := hl
    obtain ⟨ρ, hρ⟩ : ∃ ρ : Int32 × (Nat → Int32) × Int32, ρ = P_ways ff KF KT tf (n + 1) left free most im pl := ⟨_, rfl⟩
    have hr : P_ways ff KF KT tf (n + 1) left free most im pl = ρ := hρ.symm
    rewrite [P_ways] at hr
    refine lv_iload_n hx hb dX2_ways_0 rfl (lv_at hl 1 rfl) ?_
    refine lv_if_ne (tgt := 6) hx hb dX2_ways_1 (by decide) (fun c_3 => ?_) (fun c_3 => ?_)
    · have hr := if_no hr c_3
      refine lv_iload hx hb dX2_ways_6 (lv_at hl 4 rfl) ?_
      refine lv_bipush (v := 16) hx hb dX2_ways_8 (by decide) ?_
      refine lv_icmp_lt (tgt := 15) hx hb dX2_ways_10 (by decide) (fun c_4 => ?_) (fun c_4 => ?_)
      · refine lv_aload_n hx hb dX2_ways_15 rfl (lv_at hl 0 rfl) ?_
        refine lv_iload_n hx hb dX2_ways_16 rfl (lv_at hl 1 rfl) ?_
        refine kCall (va_runV (As := [.int left]) (rest := []) ⟨hx, hb, hml, hown, hts⟩ (k_X2_nextToPlace l dC dI cI cN d0 f0 f1 t0 t1 d1 KF ff KT tf im pl left (by first | assumption | omega | exact Int32.le_refl _ | decide) (by first | assumption | omega | exact Int32.le_refl _ | decide)) (cwV 1 hts gX2_ways_X2_nextToPlace rfl rfl rfl (by decide +kernel) ⟨by show 1 + 1 ≤ 2 + (n + 1); omega, by show 8 + (6 + 11) + 21 ≤ 48 + 28 * (n + 1); omega⟩) (kW_V hP hK hD hN (ci := 2) (q0 := 0) rfl rfl [0, 1, 2, 3, 4, 5] rfl rfl rfl) rfl rfl hl.1 rfl (lv_room (Nat.le_of_ble_eq_true rfl)) dX2_ways_17 ⟨Nat.zero_le _, Nat.zero_le _⟩) hP hS (fun H locs hP hS => ?_)
        refine lv_topi (fun knot_5 eknot_5 => ?_)
        have hr := bd_to hr eknot_5
        refine lv_istore (lv' := [(5, .int knot_5), (0, .ref d0), (1, .int left), (2, .int free), (3, .int most), (4, .int (nI dp))]) hx hb dX2_ways_20 hl (by decide) rfl (fun ls hl => ?_)
        refine lv_aload_n hx hb dX2_ways_22 rfl (lv_at hl 1 rfl) ?_
        refine lv_iload hx hb dX2_ways_23 (lv_at hl 0 rfl) ?_
        refine lv_iload_n hx hb dX2_ways_25 rfl (lv_at hl 3 rfl) ?_
        refine kCall (va_runV (As := [.int knot_5, .int free]) (rest := []) ⟨hx, hb, hml, hown, hts⟩ (k_X2_fitting l dC dI cI cN d0 f0 f1 t0 t1 d1 KF ff KT tf im pl knot_5 free (by first | assumption | omega | exact Int32.le_refl _ | decide) (by first | assumption | omega | exact Int32.le_refl _ | decide)) (cwV 2 hts gX2_ways_X2_fitting rfl rfl rfl (by decide +kernel) ⟨by show 1 + 1 ≤ 2 + (n + 1); omega, by show 8 + (8 + 11) + 21 ≤ 48 + 28 * (n + 1); omega⟩) (kW_V hP hK hD hN (ci := 2) (q0 := 0) rfl rfl [0, 1, 2, 3, 4, 5] rfl rfl rfl) rfl rfl hl.1 rfl (lv_room (Nat.le_of_ble_eq_true rfl)) dX2_ways_26 ⟨Nat.zero_le _, Nat.zero_le _⟩) hP hS (fun H locs hP hS => ?_)
        refine lv_topi (fun fit_6 efit_6 => ?_)
        have hr := bd_to hr efit_6
        refine lv_istore (lv' := [(6, .int fit_6), (5, .int knot_5), (0, .ref d0), (1, .int left), (2, .int free), (3, .int most), (4, .int (nI dp))]) hx hb dX2_ways_29 hl (by decide) rfl (fun ls hl => ?_)
        refine lv_iconst (v := 0) hx hb dX2_ways_31 (by decide) ?_
        refine lv_istore (lv' := [(7, .int 0), (6, .int fit_6), (5, .int knot_5), (0, .ref d0), (1, .int left), (2, .int free), (3, .int most), (4, .int (nI dp))]) hx hb dX2_ways_32 hl (by decide) rfl (fun ls hl => ?_)
        refine lv_iconst (v := 0) hx hb dX2_ways_34 (by decide) ?_
        refine lv_istore (lv' := [(8, .int 0), (7, .int 0), (6, .int fit_6), (5, .int knot_5), (0, .ref d0), (1, .int left), (2, .int free), (3, .int most), (4, .int (nI dp))]) hx hb dX2_ways_35 hl (by decide) rfl (fun ls hl => ?_)
        have ex_37 : ∀ (knot : Int32) (fit : Int32) (many : Int32) (ia : Nat → Int32) (pa : Int32) (H : Heap) (locs : List Loc) (ls : Array Slot), ((many, ia, pa)) = ρ → va_P (dC, dI) kCl [(d0, .inr (2, [.ref f0, .ref t0, .ref d1, .int pa])), (f0, .inr (3, [.ref f1, .int (nI KF)])), (f1, .inl (cI, 16, .inl ff)), (t0, .inr (3, [.ref t1, .int (nI KT)])), (t1, .inl (cI, 16, .inl tf)), (d1, .inl (cI, 16, .inl ia))] H → va_D A [(d0, .inr (2, [.ref f0, .ref t0, .ref d1, .int pa])), (f0, .inr (3, [.ref f1, .int (nI KF)])), (f1, .inl (cI, 16, .inl ff)), (t0, .inr (3, [.ref t1, .int (nI KT)])), (t1, .inl (cI, 16, .inl tf)), (d1, .inl (cI, 16, .inl ia))] → va_S A s.heap H locs → lv_has ls 9 [(5, .int knot), (6, .int fit), (7, .int many), (0, .ref d0), (1, .int left), (2, .int free), (3, .int most), (4, .int (nI dp))] → W p l e (headSpec wsX2_ways (rm_X2_ways (n + 1))).room s m (([.ref d0, .int left, .int free, .int most, .int (nI dp)] : List Value).toArray) below meth c H locs 0 0 (MQ below (kVi dC dI (P_ways ff KF KT tf (n + 1) left free most im pl).1 [(d0, .inr (2, [.ref f0, .ref t0, .ref d1, .int ((P_ways ff KF KT tf (n + 1) left free most im pl).2.2)])), (f0, .inr (3, [.ref f1, .int (nI KF)])), (f1, .inl (cI, 16, .inl ff)), (t0, .inr (3, [.ref t1, .int (nI KT)])), (t1, .inl (cI, 16, .inl tf)), (d1, .inl (cI, 16, .inl ((P_ways ff KF KT tf (n + 1) left free most im pl).2.1)))] A) (([.ref d0, .int left, .int free, .int most, .int (nI dp)] : List Value).toArray) s 0 0 A) (F0 m 130 ls []) := by
          intro knot fit many ia pa H locs ls hr hP hD hS hl
          refine lv_iload hx hb dX2_ways_130 (lv_at hl 2 rfl) ?_
          have he := hr.trans hρ
          exact W.iret (v := many) hx hb hr0 (fun t ht hW => kVi_end (by rw [← he]) (by rw [← he]; exact hP) hS ht) hS.2.2 dX2_ways_132
        have lp_37 : ∀ (n_37 place : Nat) (knot : Int32) (fit : Int32) (many : Int32) (ia : Nat → Int32) (pa : Int32) (H : Heap) (locs : List Loc) (ls : Array Slot), place + n_37 = KT → L_ways_37 left free most ((P_ways ff KF KT tf n)) (fun knot fit many ia pa => (many, ia, pa)) n_37 place knot fit many ia pa = ρ → va_P (dC, dI) kCl [(d0, .inr (2, [.ref f0, .ref t0, .ref d1, .int pa])), (f0, .inr (3, [.ref f1, .int (nI KF)])), (f1, .inl (cI, 16, .inl ff)), (t0, .inr (3, [.ref t1, .int (nI KT)])), (t1, .inl (cI, 16, .inl tf)), (d1, .inl (cI, 16, .inl ia))] H → va_D A [(d0, .inr (2, [.ref f0, .ref t0, .ref d1, .int pa])), (f0, .inr (3, [.ref f1, .int (nI KF)])), (f1, .inl (cI, 16, .inl ff)), (t0, .inr (3, [.ref t1, .int (nI KT)])), (t1, .inl (cI, 16, .inl tf)), (d1, .inl (cI, 16, .inl ia))] → va_S A s.heap H locs → lv_has ls 9 [(8, .int (nI place)), (5, .int knot), (6, .int fit), (7, .int many), (0, .ref d0), (1, .int left), (2, .int free), (3, .int most), (4, .int (nI dp))] → W p l e (headSpec wsX2_ways (rm_X2_ways (n + 1))).room s m (([.ref d0, .int left, .int free, .int most, .int (nI dp)] : List Value).toArray) below meth c H locs 0 0 (MQ below (kVi dC dI (P_ways ff KF KT tf (n + 1) left free most im pl).1 [(d0, .inr (2, [.ref f0, .ref t0, .ref d1, .int ((P_ways ff KF KT tf (n + 1) left free most im pl).2.2)])), (f0, .inr (3, [.ref f1, .int (nI KF)])), (f1, .inl (cI, 16, .inl ff)), (t0, .inr (3, [.ref t1, .int (nI KT)])), (t1, .inl (cI, 16, .inl tf)), (d1, .inl (cI, 16, .inl ((P_ways ff KF KT tf (n + 1) left free most im pl).2.1)))] A) (([.ref d0, .int left, .int free, .int most, .int (nI dp)] : List Value).toArray) s 0 0 A) (F0 m 37 ls []) := by
          intro n_37
          induction n_37 with
          | zero =>
            intro place knot fit many ia pa H locs ls hi hr hP hD hS hl
            rewrite [L_ways_37] at hr
            refine lv_iload hx hb dX2_ways_37 (lv_at hl 0 rfl) ?_
            refine lv_aload_n hx hb dX2_ways_39 rfl (lv_at hl 4 rfl) ?_
            refine va_get (D := (dC, dI)) (ci := 2) (v := .ref t0) (C := RX2) (T := TX2) (N := 4) hx hb hts (by decide +kernel) hown hK hP 0 rfl rfl 1 (by decide) (hts (.fieldLink RX2 18 "Shortring$Likeness" "to" "LShortring$Net;") (by decide +kernel)) (fun _ h9 => h9) rfl dX2_ways_40 ?_
            refine va_getN (D := (dC, dI)) (ci := 3) (v := .int (nI KT)) (C := RX3) (T := TX3) (N := 2) hx hb hts (by decide +kernel) hown hK hP 3 rfl rfl 1 (by decide) (va_Nw.use rfl (hN.2 10 _ rfl)) (fun _ h9 => h9) rfl dX2_ways_43 ?_
            refine lv_icmp_ge (tgt := 130) hx hb dX2_ways_46 (by decide) (fun c_7 => ?_) (fun c_7 => ?_)
            · exact ex_37 knot fit many ia pa _ _ _ hr hP hD hS (lv_sub hl [1, 2, 3, 4, 5, 6, 7, 8] rfl)
            · exact absurd (kTop (i := place) (N := KT) rfl (by omega)) c_7
          | succ n_37 ih_37 =>
            intro place knot fit many ia pa H locs ls hi hr hP hD hS hl
            rewrite [L_ways_37] at hr
            refine lv_iload hx hb dX2_ways_37 (lv_at hl 0 rfl) ?_
            refine lv_aload_n hx hb dX2_ways_39 rfl (lv_at hl 4 rfl) ?_
            refine va_get (D := (dC, dI)) (ci := 2) (v := .ref t0) (C := RX2) (T := TX2) (N := 4) hx hb hts (by decide +kernel) hown hK hP 0 rfl rfl 1 (by decide) (hts (.fieldLink RX2 18 "Shortring$Likeness" "to" "LShortring$Net;") (by decide +kernel)) (fun _ h9 => h9) rfl dX2_ways_40 ?_
            refine va_getN (D := (dC, dI)) (ci := 3) (v := .int (nI KT)) (C := RX3) (T := TX3) (N := 2) hx hb hts (by decide +kernel) hown hK hP 3 rfl rfl 1 (by decide) (va_Nw.use rfl (hN.2 10 _ rfl)) (fun _ h9 => h9) rfl dX2_ways_43 ?_
            refine lv_icmp_ge (tgt := 130) hx hb dX2_ways_46 (by decide) (fun c_8 => ?_) (fun c_8 => ?_)
            · exact absurd c_8 (kLow (i := place) (N := KT) rfl (by omega) (by omega))
            · refine lv_iload hx hb dX2_ways_49 (lv_at hl 3 rfl) ?_
              refine lv_iload_n hx hb dX2_ways_51 rfl (lv_at hl 7 rfl) ?_
              refine lv_icmp_ge (tgt := 130) hx hb dX2_ways_52 (by decide) (fun c_9 => ?_) (fun c_9 => ?_)
              · have hr := if_to hr c_9
                exact ex_37 knot fit many ia pa _ _ _ hr hP hD hS (lv_sub hl [1, 2, 3, 4, 5, 6, 7, 8] rfl)
              · have hr := if_no hr c_9
                refine lv_iload hx hb dX2_ways_55 (lv_at hl 2 rfl) ?_
                refine lv_iload hx hb dX2_ways_57 (lv_at hl 0 rfl) ?_
                refine kCall (va_runSN (As := [.int fit, .int (nI place)]) (rest := []) ⟨hx, hb, hml, hown, hts⟩ (k_X6_holds l dC dI cI cN fit (nI place)) ⟨va_cnB 2 hts gX2_ways_X6_holds_n36 rfl rfl rfl (hN.1 56 _ rfl) (hts (.initialized RX6) (by decide +kernel)) (by decide +kernel) ⟨by show 0 + 1 ≤ 2 + (n + 1); omega, by show 8 + (2 + 11) + 0 ≤ 48 + 28 * (n + 1); omega⟩, hts (.static yX6_holds) (by decide +kernel), trivial⟩ (kW_S hP hK hD hN [] rfl rfl rfl) rfl rfl hl.1 rfl (lv_room (Nat.le_of_ble_eq_true rfl)) dX2_ways_59 ⟨Nat.zero_le _, Nat.zero_le _⟩) hP hS (fun H locs hP hS => ?_)
                refine lv_if_eq (tgt := 124) hx hb dX2_ways_62 (by decide) (fun c_10 => ?_) (fun c_10 => ?_)
                · have hr := if_to hr c_10
                  refine lv_iinc (v := nI (place + 1)) (lv' := [(8, .int (nI (place + 1))), (5, .int knot), (6, .int fit), (7, .int many), (0, .ref d0), (1, .int left), (2, .int free), (3, .int most), (4, .int (nI dp))]) hx hb dX2_ways_124 hl (k := 0) rfl (nI_1 _) (by decide) rfl (fun ls hl => ?_)
                  refine lv_goto (tgt := 37) hx hb dX2_ways_127 (by decide) ?_
                  exact ih_37 (place + 1) knot fit many ia pa _ _ _ (by omega) hr hP hD hS (lv_sub hl [0, 1, 2, 3, 4, 5, 6, 7, 8] rfl)
                · have hr := if_no hr c_10
                  refine lv_aload_n hx hb dX2_ways_65 rfl (lv_at hl 4 rfl) ?_
                  refine lv_iload hx hb dX2_ways_66 (lv_at hl 1 rfl) ?_
                  refine lv_iload hx hb dX2_ways_68 (lv_at hl 0 rfl) ?_
                  refine kCallV (wr := []) (va_runV (As := [.int knot, .int (nI place)]) (rest := []) ⟨hx, hb, hml, hown, hts⟩ (k_X2_place l dC dI cI cN d0 f0 f1 t0 t1 d1 KF ff KT tf ia pa knot (nI place) (by first | assumption | omega | exact Int32.le_refl _ | decide) (by first | assumption | omega | exact Int32.le_refl _ | decide) _) (cwV 2 hts gX2_ways_X2_place rfl rfl rfl (by decide +kernel) ⟨by show 1 + 1 ≤ 2 + (n + 1); omega, by show 8 + (3 + 11) + 20 ≤ 48 + 28 * (n + 1); omega⟩) (kU_V hP hK hD hN (ci := 2) (q0 := 0) rfl rfl [0, 1, 2, 3, 4, 5] rfl rfl rfl) rfl rfl hl.1 rfl (lv_room (Nat.le_of_ble_eq_true rfl)) dX2_ways_70 ⟨Nat.zero_le _, Nat.zero_le _⟩) hP hD hS hA [0, 1, 2, 3, 4, 5] [] rfl rfl rfl rfl (by decide) rfl (fun H locs hP hD hS => ?_)
                  obtain ⟨r_11, er_11⟩ : ∃ y : (Nat → Int32) × Int32, y = (P_place ia pa knot (nI place)) := ⟨_, rfl⟩
                  try rw [← er_11] at hP hD
                  have hr := bd_to hr er_11
                  have hP : va_P (dC, dI) kCl [(d0, .inr (2, [.ref f0, .ref t0, .ref d1, .int r_11.2])), (f0, .inr (3, [.ref f1, .int (nI KF)])), (f1, .inl (cI, 16, .inl ff)), (t0, .inr (3, [.ref t1, .int (nI KT)])), (t1, .inl (cI, 16, .inl tf)), (d1, .inl (cI, 16, .inl r_11.1))] H := hP.sub [0, 1, 2, 3, 4, 5] rfl
                  have hD : va_D A [(d0, .inr (2, [.ref f0, .ref t0, .ref d1, .int r_11.2])), (f0, .inr (3, [.ref f1, .int (nI KF)])), (f1, .inl (cI, 16, .inl ff)), (t0, .inr (3, [.ref t1, .int (nI KT)])), (t1, .inl (cI, 16, .inl tf)), (d1, .inl (cI, 16, .inl r_11.1))] := hD.sub [0, 1, 2, 3, 4, 5] (by decide) rfl
                  refine lv_iload hx hb dX2_ways_73 (lv_at hl 3 rfl) ?_
                  refine lv_aload_n hx hb dX2_ways_75 rfl (lv_at hl 4 rfl) ?_
                  refine lv_iload_n hx hb dX2_ways_76 rfl (lv_at hl 5 rfl) ?_
                  refine lv_iload hx hb dX2_ways_77 (lv_at hl 1 rfl) ?_
                  refine kCall (va_runSN (As := [.int knot]) (rest := [.int left, .ref d0, .int many]) ⟨hx, hb, hml, hown, hts⟩ (k_X6_bit l dC dI cI cN knot) ⟨va_cnB 1 hts gX2_ways_X6_bit_n63 rfl rfl rfl (hN.1 59 _ rfl) (hts (.initialized RX6) (by decide +kernel)) (by decide +kernel) ⟨by show 0 + 1 ≤ 2 + (n + 1); omega, by show 8 + (1 + 11) + 0 ≤ 48 + 28 * (n + 1); omega⟩, hts (.static yX6_bit) (by decide +kernel), trivial⟩ (kW_S hP hK hD hN [] rfl rfl rfl) rfl rfl hl.1 rfl (lv_room (Nat.le_of_ble_eq_true rfl)) dX2_ways_79 ⟨Nat.zero_le _, Nat.zero_le _⟩) hP hS (fun H locs hP hS => ?_)
                  refine lv_iconst (v := (-1)) hx hb dX2_ways_82 (by decide) ?_
                  refine lv_ixor hx hb dX2_ways_83 ?_
                  refine lv_iand hx hb dX2_ways_84 ?_
                  refine lv_iload_n hx hb dX2_ways_85 rfl (lv_at hl 6 rfl) ?_
                  refine lv_iload hx hb dX2_ways_86 (lv_at hl 0 rfl) ?_
                  refine kCall (va_runSN (As := [.int (nI place)]) (rest := [.int free, .int (left &&& ((P_bit knot) ^^^ (-1 : Int32))), .ref d0, .int many]) ⟨hx, hb, hml, hown, hts⟩ (k_X6_bit l dC dI cI cN (nI place)) ⟨va_cnB 1 hts gX2_ways_X6_bit_n63 rfl rfl rfl (hN.1 59 _ rfl) (hts (.initialized RX6) (by decide +kernel)) (by decide +kernel) ⟨by show 0 + 1 ≤ 2 + (n + 1); omega, by show 8 + (1 + 11) + 0 ≤ 48 + 28 * (n + 1); omega⟩, hts (.static yX6_bit) (by decide +kernel), trivial⟩ (kW_S hP hK hD hN [] rfl rfl rfl) rfl rfl hl.1 rfl (lv_room (Nat.le_of_ble_eq_true rfl)) dX2_ways_88 ⟨Nat.zero_le _, Nat.zero_le _⟩) hP hS (fun H locs hP hS => ?_)
                  refine lv_iconst (v := (-1)) hx hb dX2_ways_91 (by decide) ?_
                  refine lv_ixor hx hb dX2_ways_92 ?_
                  refine lv_iand hx hb dX2_ways_93 ?_
                  refine lv_iload_n hx hb dX2_ways_94 rfl (lv_at hl 7 rfl) ?_
                  refine lv_iload hx hb dX2_ways_95 (lv_at hl 3 rfl) ?_
                  refine lv_isub hx hb dX2_ways_97 ?_
                  refine lv_iload hx hb dX2_ways_98 (lv_at hl 8 rfl) ?_
                  refine lv_iconst (v := 1) hx hb dX2_ways_100 (by decide) ?_
                  refine lv_iadd hx hb dX2_ways_101 ?_
                  refine kRen (y := nI (dp + 1)) (nI_1 _) ?_
                  refine kCallVi (wr := []) (va_runS (As := [.ref d0, .int (left &&& ((P_bit knot) ^^^ (-1 : Int32))), .int (free &&& ((P_bit (nI place)) ^^^ (-1 : Int32))), .int (most - many), .int (nI (dp + 1))]) (rest := [.int many]) ⟨hx, hb, hml, hown, hts⟩ (ih_rec (left &&& ((P_bit knot) ^^^ (-1 : Int32))) (free &&& ((P_bit (nI place)) ^^^ (-1 : Int32))) (most - many) r_11.1 r_11.2 (dp + 1) _ (by omega)) (va_cwS 5 hts gX2_ways_X2_ways rfl rfl rfl (by decide +kernel) ⟨by show 2 + n + 1 ≤ 2 + (n + 1); omega, by show 8 + (9 + 11) + (48 + 28 * n) ≤ 48 + 28 * (n + 1); omega⟩) (kU_S hP hK hD hN [0, 1, 2, 3, 4, 5] rfl rfl rfl) rfl rfl hl.1 rfl (lv_room (Nat.le_of_ble_eq_true rfl)) dX2_ways_102 ⟨Nat.zero_le _, Nat.zero_le _⟩) hP hD hS hA [0, 1, 2, 3, 4, 5] [] rfl rfl rfl rfl (by decide) rfl (fun H locs hP hD hS => ?_)
                  obtain ⟨r_12, er_12⟩ : ∃ y : Int32 × (Nat → Int32) × Int32, y = ((P_ways ff KF KT tf n) (left &&& ((P_bit knot) ^^^ (-1 : Int32))) (free &&& ((P_bit (nI place)) ^^^ (-1 : Int32))) (most - many) r_11.1 r_11.2) := ⟨_, rfl⟩
                  rw [← er_12]
                  try rw [← er_12] at hP hD
                  have hr := bd_to hr er_12
                  have hP : va_P (dC, dI) kCl [(d0, .inr (2, [.ref f0, .ref t0, .ref d1, .int r_12.2.2])), (f0, .inr (3, [.ref f1, .int (nI KF)])), (f1, .inl (cI, 16, .inl ff)), (t0, .inr (3, [.ref t1, .int (nI KT)])), (t1, .inl (cI, 16, .inl tf)), (d1, .inl (cI, 16, .inl r_12.2.1))] H := hP.sub [0, 1, 2, 3, 4, 5] rfl
                  have hD : va_D A [(d0, .inr (2, [.ref f0, .ref t0, .ref d1, .int r_12.2.2])), (f0, .inr (3, [.ref f1, .int (nI KF)])), (f1, .inl (cI, 16, .inl ff)), (t0, .inr (3, [.ref t1, .int (nI KT)])), (t1, .inl (cI, 16, .inl tf)), (d1, .inl (cI, 16, .inl r_12.2.1))] := hD.sub [0, 1, 2, 3, 4, 5] (by decide) rfl
                  refine lv_iadd hx hb dX2_ways_105 ?_
                  refine lv_topi (fun many_13 emany_13 => ?_)
                  have hr := bd_to hr emany_13
                  refine lv_istore (lv' := [(7, .int many_13), (8, .int (nI place)), (5, .int knot), (6, .int fit), (0, .ref d0), (1, .int left), (2, .int free), (3, .int most), (4, .int (nI dp))]) hx hb dX2_ways_106 hl (by decide) rfl (fun ls hl => ?_)
                  refine lv_aload_n hx hb dX2_ways_108 rfl (lv_at hl 4 rfl) ?_
                  refine lv_dup hx hb dX2_ways_109 rfl ?_
                  refine va_get (D := (dC, dI)) (ci := 2) (v := .int r_12.2.2) (C := RX2) (T := TX2) (N := 4) hx hb hts (by decide +kernel) hown hK hP 0 rfl rfl 3 (by decide) (hts (.fieldLink RX2 25 "Shortring$Likeness" "placed" "I") (by decide +kernel)) (fun _ h9 => h9) rfl dX2_ways_110 ?_
                  refine lv_iload hx hb dX2_ways_113 (lv_at hl 2 rfl) ?_
                  refine kCall (va_runSN (As := [.int knot]) (rest := [.int r_12.2.2, .ref d0]) ⟨hx, hb, hml, hown, hts⟩ (k_X6_bit l dC dI cI cN knot) ⟨va_cnB 1 hts gX2_ways_X6_bit_n63 rfl rfl rfl (hN.1 59 _ rfl) (hts (.initialized RX6) (by decide +kernel)) (by decide +kernel) ⟨by show 0 + 1 ≤ 2 + (n + 1); omega, by show 8 + (1 + 11) + 0 ≤ 48 + 28 * (n + 1); omega⟩, hts (.static yX6_bit) (by decide +kernel), trivial⟩ (kW_S hP hK hD hN [] rfl rfl rfl) rfl rfl hl.1 rfl (lv_room (Nat.le_of_ble_eq_true rfl)) dX2_ways_115 ⟨Nat.zero_le _, Nat.zero_le _⟩) hP hS (fun H locs hP hS => ?_)
                  refine lv_iconst (v := (-1)) hx hb dX2_ways_118 (by decide) ?_
                  refine lv_ixor hx hb dX2_ways_119 ?_
                  refine lv_iand hx hb dX2_ways_120 ?_
                  refine va_put (D := (dC, dI)) (ci := 2) (v := .int (r_12.2.2 &&& ((P_bit knot) ^^^ (-1 : Int32)))) (ty := .int) (C := RX2) (T := TX2) (N := 4) hx hb hts (by decide +kernel) tyX2 tyX2_ok nmX2 hown hK hP hD hS 0 rfl rfl 3 (by decide) (hts (.fieldLink RX2 25 "Shortring$Likeness" "placed" "I") (by decide +kernel)) (fun _ h9 => h9) rfl (by decide +kernel) rfl rfl (Nat.le_of_ble_eq_true rfl) dX2_ways_121 (fun H locs hP hD hS => ?_)
                  have hP : va_P (dC, dI) kCl [(d0, .inr (2, [.ref f0, .ref t0, .ref d1, .int (r_12.2.2 &&& ((P_bit knot) ^^^ (-1 : Int32)))])), (f0, .inr (3, [.ref f1, .int (nI KF)])), (f1, .inl (cI, 16, .inl ff)), (t0, .inr (3, [.ref t1, .int (nI KT)])), (t1, .inl (cI, 16, .inl tf)), (d1, .inl (cI, 16, .inl r_12.2.1))] H := hP
                  have hD : va_D A [(d0, .inr (2, [.ref f0, .ref t0, .ref d1, .int (r_12.2.2 &&& ((P_bit knot) ^^^ (-1 : Int32)))])), (f0, .inr (3, [.ref f1, .int (nI KF)])), (f1, .inl (cI, 16, .inl ff)), (t0, .inr (3, [.ref t1, .int (nI KT)])), (t1, .inl (cI, 16, .inl tf)), (d1, .inl (cI, 16, .inl r_12.2.1))] := hD
                  refine lv_iinc (v := nI (place + 1)) (lv' := [(8, .int (nI (place + 1))), (7, .int many_13), (5, .int knot), (6, .int fit), (0, .ref d0), (1, .int left), (2, .int free), (3, .int most), (4, .int (nI dp))]) hx hb dX2_ways_124 hl (k := 1) rfl (nI_1 _) (by decide) rfl (fun ls hl => ?_)
                  refine lv_goto (tgt := 37) hx hb dX2_ways_127 (by decide) ?_
                  exact ih_37 (place + 1) knot fit many_13 r_12.2.1 (r_12.2.2 &&& ((P_bit knot) ^^^ (-1 : Int32))) _ _ _ (by omega) hr hP hD hS (lv_sub hl [0, 2, 3, 1, 4, 5, 6, 7, 8] rfl)
        exact lp_37 KT 0 knot_5 fit_6 0 im pl _ _ _ (by omega) hr hP hD hS (lv_sub hl [0, 3, 2, 1, 4, 5, 6, 7, 8] rfl)
      · exact absurd (kDepthS (by omega)) c_4
    · have hr := if_to hr c_3
      refine lv_iconst (v := 1) hx hb dX2_ways_4 (by decide) ?_
      have he := hr.trans hρ
      exact W.iret (v := 1) hx hb hr0 (fun t ht hW => kVi_end (by rw [← he]) (by rw [← he]; exact hP) hS ht) hS.2.2 dX2_ways_5
def P_waysOf (ff : Nat → Int32) (KF : Nat) (KT : Nat) (tf : Nat → Int32) (im : Nat → Int32) (pl : Int32) (part : Int32) (other : Int32) (most : Int32) : Int32 × (Nat → Int32) × Int32 :=
  if (P_bitCount part) = (P_bitCount other) then
    bd (P_ways ff KF KT tf 16 part other most im 0) (fun r_2 =>
      (r_2.1, r_2.2.1, r_2.2.2))
  else
    (0, im, pl)
abbrev rm_X2_waysOf : Room := { frames := 19, cells := 0, slots := 0, locals := 524 }
set_option maxHeartbeats 4000000 in
set_option maxRecDepth 100000 in
theorem k_X2_waysOf (l : Launch) (dC : Nat → ClassId) (dI : Nat → Nat → Nat) (cI cN : ClassId) (d0 : Nat) (f0 : Nat) (f1 : Nat) (t0 : Nat) (t1 : Nat) (d1 : Nat) (KF : Nat) (ff : Nat → Int32) (KT : Nat) (tf : Nat → Int32) (im : Nat → Int32) (pl : Int32) (part : Int32) (other : Int32) (most : Int32) (hKF : KF ≤ 16) (hKT : KT ≤ 16) (sz : Nat) : Met l yX2_waysOf wsX2_waysOf rm_X2_waysOf (va_Pc [.ref d0, .int part, .int other, .int most] (kU dC dI cI cN [(d0, .inr (2, [.ref f0, .ref t0, .ref d1, .int pl])), (f0, .inr (3, [.ref f1, .int (nI KF)])), (f1, .inl (cI, 16, .inl ff)), (t0, .inr (3, [.ref t1, .int (nI KT)])), (t1, .inl (cI, 16, .inl tf)), (d1, .inl (cI, 16, .inl im))] sz)) (kVi dC dI (P_waysOf ff KF KT tf im pl part other most).1 [(d0, .inr (2, [.ref f0, .ref t0, .ref d1, .int ((P_waysOf ff KF KT tf im pl part other most).2.2)])), (f0, .inr (3, [.ref f1, .int (nI KF)])), (f1, .inl (cI, 16, .inl ff)), (t0, .inr (3, [.ref t1, .int (nI KT)])), (t1, .inl (cI, 16, .inl tf)), (d1, .inl (cI, 16, .inl ((P_waysOf ff KF KT tf im pl part other most).2.1)))] (va_A [(d0, .inr (2, [.ref f0, .ref t0, .ref d1, .int pl])), (f0, .inr (3, [.ref f1, .int (nI KF)])), (f1, .inl (cI, 16, .inl ff)), (t0, .inr (3, [.ref t1, .int (nI KT)])), (t1, .inl (cI, 16, .inl tf)), (d1, .inl (cI, 16, .inl im))] sz)) 0 0 (va_A [(d0, .inr (2, [.ref f0, .ref t0, .ref d1, .int pl])), (f0, .inr (3, [.ref f1, .int (nI KF)])), (f1, .inl (cI, 16, .inl ff)), (t0, .inr (3, [.ref t1, .int (nI KT)])), (t1, .inl (cI, 16, .inl tf)), (d1, .inl (cI, 16, .inl im))] sz) := by
  refine Met.ofW (cc := cX2_waysOf) (maxL := 4) (ret := (some .int)) (by decide) rfl ?_
  intro p e s m args below meth c s₁ B hml hv
  obtain ⟨rfl, hsz, hP, hK, hD0, hN⟩ := hv
  have hx := B.exec
  have hb := B.bytes
  have hr0 := B.returns
  have hts := atoms_spec (ws := wsX2_waysOf) B.pre
  have hown : s.vm.findClass RX2 = some m.cls := findClass_of_methodNamed B.named
  have hlocks := B.notSynchronized
  subst hsz
  have hD := hD0.self (sz := s.heap.size)
  generalize hAe : va_A [(d0, .inr (2, [.ref f0, .ref t0, .ref d1, .int pl])), (f0, .inr (3, [.ref f1, .int (nI KF)])), (f1, .inl (cI, 16, .inl ff)), (t0, .inr (3, [.ref t1, .int (nI KT)])), (t1, .inl (cI, 16, .inl tf)), (d1, .inl (cI, 16, .inl im))] s.heap.size = A at hD ⊢
  have hA : ∀ q : Nat, s.heap.size ≤ q → A q := fun q h => by rw [← hAe]; exact Or.inr h
  have hS : va_S A s.heap s.heap [] := va_S.rf
  have hl := lv_entry ([.ref d0, .int part, .int other, .int most]) (n := 4) (Nat.le_of_ble_eq_true rfl)
  rw [lg_entry_eq]
  generalize (lg_sl ([.ref d0, .int part, .int other, .int most]) ++ List.replicate (4 - (lg_sl ([.ref d0, .int part, .int other, .int most])).length) Slot.unset).toArray = ls at hl ⊢
  have hl : lv_has ls 4 [(0, .ref d0), (1, .int part), (2, .int other), (3, .int most)] := hl
  obtain ⟨ρ, hρ⟩ : ∃ ρ : Int32 × (Nat → Int32) × Int32, ρ = P_waysOf ff KF KT tf im pl part other most := ⟨_, rfl⟩
  have hr : P_waysOf ff KF KT tf im pl part other most = ρ := hρ.symm
  rewrite [P_waysOf] at hr
  refine lv_iload_n hx hb dX2_waysOf_0 rfl (lv_at hl 1 rfl) ?_
  refine kCall (va_runS (As := [.int part]) (rest := []) ⟨hx, hb, hml, hown, hts⟩ (k_J6_bitCount_0f7a4 l dC dI cI cN part) (va_cwS 1 hts gX2_waysOf_J6_bitCount_0f7a4 rfl rfl rfl (by decide +kernel) ⟨Nat.le_of_ble_eq_true rfl, Nat.le_of_ble_eq_true rfl⟩) (kW_S hP hK hD hN [] rfl rfl rfl) rfl rfl hl.1 rfl (lv_room (Nat.le_of_ble_eq_true rfl)) dX2_waysOf_1 ⟨Nat.zero_le _, Nat.zero_le _⟩) hP hS (fun H locs hP hS => ?_)
  refine lv_iload_n hx hb dX2_waysOf_4 rfl (lv_at hl 2 rfl) ?_
  refine kCall (va_runS (As := [.int other]) (rest := [.int (P_bitCount part)]) ⟨hx, hb, hml, hown, hts⟩ (k_J6_bitCount_0f7a4 l dC dI cI cN other) (va_cwS 1 hts gX2_waysOf_J6_bitCount_0f7a4 rfl rfl rfl (by decide +kernel) ⟨Nat.le_of_ble_eq_true rfl, Nat.le_of_ble_eq_true rfl⟩) (kW_S hP hK hD hN [] rfl rfl rfl) rfl rfl hl.1 rfl (lv_room (Nat.le_of_ble_eq_true rfl)) dX2_waysOf_5 ⟨Nat.zero_le _, Nat.zero_le _⟩) hP hS (fun H locs hP hS => ?_)
  refine lv_icmp_eq (tgt := 13) hx hb dX2_waysOf_8 (by decide) (fun c_1 => ?_) (fun c_1 => ?_)
  · have hr := if_to hr c_1
    refine lv_aload_n hx hb dX2_waysOf_13 rfl (lv_at hl 0 rfl) ?_
    refine lv_iconst (v := 0) hx hb dX2_waysOf_14 (by decide) ?_
    refine va_put (D := (dC, dI)) (ci := 2) (v := .int 0) (ty := .int) (C := RX2) (T := TX2) (N := 4) hx hb hts (by decide +kernel) tyX2 tyX2_ok nmX2 hown hK hP hD hS 0 rfl rfl 3 (by decide) (hts (.fieldLink RX2 25 "Shortring$Likeness" "placed" "I") (by decide +kernel)) (fun _ h9 => h9) rfl (by decide +kernel) rfl rfl (Nat.le_of_ble_eq_true rfl) dX2_waysOf_15 (fun H locs hP hD hS => ?_)
    have hP : va_P (dC, dI) kCl [(d0, .inr (2, [.ref f0, .ref t0, .ref d1, .int 0])), (f0, .inr (3, [.ref f1, .int (nI KF)])), (f1, .inl (cI, 16, .inl ff)), (t0, .inr (3, [.ref t1, .int (nI KT)])), (t1, .inl (cI, 16, .inl tf)), (d1, .inl (cI, 16, .inl im))] H := hP
    have hD : va_D A [(d0, .inr (2, [.ref f0, .ref t0, .ref d1, .int 0])), (f0, .inr (3, [.ref f1, .int (nI KF)])), (f1, .inl (cI, 16, .inl ff)), (t0, .inr (3, [.ref t1, .int (nI KT)])), (t1, .inl (cI, 16, .inl tf)), (d1, .inl (cI, 16, .inl im))] := hD
    refine lv_aload_n hx hb dX2_waysOf_18 rfl (lv_at hl 0 rfl) ?_
    refine lv_iload_n hx hb dX2_waysOf_19 rfl (lv_at hl 1 rfl) ?_
    refine lv_iload_n hx hb dX2_waysOf_20 rfl (lv_at hl 2 rfl) ?_
    refine lv_iload_n hx hb dX2_waysOf_21 rfl (lv_at hl 3 rfl) ?_
    refine lv_iconst (v := 0) hx hb dX2_waysOf_22 (by decide) ?_
    refine kCallVi (wr := []) (va_runS (As := [.ref d0, .int part, .int other, .int most, .int 0]) (rest := []) ⟨hx, hb, hml, hown, hts⟩ (k_X2_ways l dC dI cI cN d0 f0 f1 t0 t1 d1 KF ff KT tf (by first | assumption | omega) (by first | assumption | omega) 16 part other most im 0 0 _ (by omega)) (va_cwS 5 hts gX2_waysOf_X2_ways rfl rfl rfl (by decide +kernel) ⟨Nat.le_of_ble_eq_true rfl, Nat.le_of_ble_eq_true rfl⟩) (kU_S hP hK hD hN [0, 1, 2, 3, 4, 5] rfl rfl rfl) rfl rfl hl.1 rfl (lv_room (Nat.le_of_ble_eq_true rfl)) dX2_waysOf_23 ⟨Nat.zero_le _, Nat.zero_le _⟩) hP hD hS hA [0, 1, 2, 3, 4, 5] [] rfl rfl rfl rfl (by decide) rfl (fun H locs hP hD hS => ?_)
    obtain ⟨r_2, er_2⟩ : ∃ y : Int32 × (Nat → Int32) × Int32, y = (P_ways ff KF KT tf 16 part other most im 0) := ⟨_, rfl⟩
    rw [← er_2]
    try rw [← er_2] at hP hD
    have hr := bd_to hr er_2
    have hP : va_P (dC, dI) kCl [(d0, .inr (2, [.ref f0, .ref t0, .ref d1, .int r_2.2.2])), (f0, .inr (3, [.ref f1, .int (nI KF)])), (f1, .inl (cI, 16, .inl ff)), (t0, .inr (3, [.ref t1, .int (nI KT)])), (t1, .inl (cI, 16, .inl tf)), (d1, .inl (cI, 16, .inl r_2.2.1))] H := hP.sub [0, 1, 2, 3, 4, 5] rfl
    have hD : va_D A [(d0, .inr (2, [.ref f0, .ref t0, .ref d1, .int r_2.2.2])), (f0, .inr (3, [.ref f1, .int (nI KF)])), (f1, .inl (cI, 16, .inl ff)), (t0, .inr (3, [.ref t1, .int (nI KT)])), (t1, .inl (cI, 16, .inl tf)), (d1, .inl (cI, 16, .inl r_2.2.1))] := hD.sub [0, 1, 2, 3, 4, 5] (by decide) rfl
    have he := hr.trans hρ
    exact W.iret (v := r_2.1) hx hb hr0 (fun t ht hW => kVi_end (by rw [← he]) (by rw [← he]; exact hP) hS ht) hS.2.2 dX2_waysOf_26
  · have hr := if_no hr c_1
    refine lv_iconst (v := 0) hx hb dX2_waysOf_11 (by decide) ?_
    have he := hr.trans hρ
    exact W.iret (v := 0) hx hb hr0 (fun t ht hW => kVi_end (by rw [← he]) (by rw [← he]; exact hP) hS ht) hS.2.2 dX2_waysOf_12
def L_partsLike_8 (ff : Nat → Int32) (KF : Nat) (KT : Nat) (tf : Nat → Int32) (part : Int32) (k : Int32 → Int32 → (Nat → Int32) → Int32 → Int32 × (Nat → Int32) × Int32) : Nat → Nat → Int32 → Int32 → (Nat → Int32) → Int32 → Int32 × (Nat → Int32) × Int32
  | 0, knot, many, left, ia, pa => k many left ia pa
  | n + 1, knot, many, left, ia, pa =>
    if (P_holds left (nI knot)) = 0 then
      L_partsLike_8 ff KF KT tf part k n (knot + 1) many left ia pa
    else
      bd (P_partWith tf (nI knot)) (fun other_1 =>
        bd (P_waysOf ff KF KT tf ia pa part other_1 1) (fun r_2 =>
          bd (many + r_2.1) (fun many_3 =>
            bd (left &&& (other_1 ^^^ (-1 : Int32))) (fun left_4 =>
              L_partsLike_8 ff KF KT tf part k n (knot + 1) many_3 left_4 r_2.2.1 r_2.2.2))))
def P_partsLike (ff : Nat → Int32) (KF : Nat) (KT : Nat) (tf : Nat → Int32) (im : Nat → Int32) (pl : Int32) (part : Int32) (among : Int32) : Int32 × (Nat → Int32) × Int32 :=
  L_partsLike_8 ff KF KT tf part (fun many left ia pa => (many, ia, pa)) KT 0 0 among im pl
abbrev rm_X2_partsLike : Room := { frames := 20, cells := 0, slots := 0, locals := 547 }
set_option maxHeartbeats 4000000 in
set_option maxRecDepth 100000 in
theorem k_X2_partsLike (l : Launch) (dC : Nat → ClassId) (dI : Nat → Nat → Nat) (cI cN : ClassId) (d0 : Nat) (f0 : Nat) (f1 : Nat) (t0 : Nat) (t1 : Nat) (d1 : Nat) (KF : Nat) (ff : Nat → Int32) (KT : Nat) (tf : Nat → Int32) (im : Nat → Int32) (pl : Int32) (part : Int32) (among : Int32) (hKF : KF ≤ 16) (hKT : KT ≤ 16) (sz : Nat) : Met l yX2_partsLike wsX2_partsLike rm_X2_partsLike (va_Pc [.ref d0, .int part, .int among] (kU dC dI cI cN [(d0, .inr (2, [.ref f0, .ref t0, .ref d1, .int pl])), (f0, .inr (3, [.ref f1, .int (nI KF)])), (f1, .inl (cI, 16, .inl ff)), (t0, .inr (3, [.ref t1, .int (nI KT)])), (t1, .inl (cI, 16, .inl tf)), (d1, .inl (cI, 16, .inl im))] sz)) (kVi dC dI (P_partsLike ff KF KT tf im pl part among).1 [(d0, .inr (2, [.ref f0, .ref t0, .ref d1, .int ((P_partsLike ff KF KT tf im pl part among).2.2)])), (f0, .inr (3, [.ref f1, .int (nI KF)])), (f1, .inl (cI, 16, .inl ff)), (t0, .inr (3, [.ref t1, .int (nI KT)])), (t1, .inl (cI, 16, .inl tf)), (d1, .inl (cI, 16, .inl ((P_partsLike ff KF KT tf im pl part among).2.1)))] (va_A [(d0, .inr (2, [.ref f0, .ref t0, .ref d1, .int pl])), (f0, .inr (3, [.ref f1, .int (nI KF)])), (f1, .inl (cI, 16, .inl ff)), (t0, .inr (3, [.ref t1, .int (nI KT)])), (t1, .inl (cI, 16, .inl tf)), (d1, .inl (cI, 16, .inl im))] sz)) 0 0 (va_A [(d0, .inr (2, [.ref f0, .ref t0, .ref d1, .int pl])), (f0, .inr (3, [.ref f1, .int (nI KF)])), (f1, .inl (cI, 16, .inl ff)), (t0, .inr (3, [.ref t1, .int (nI KT)])), (t1, .inl (cI, 16, .inl tf)), (d1, .inl (cI, 16, .inl im))] sz) := by
  refine Met.ofW (cc := cX2_partsLike) (maxL := 7) (ret := (some .int)) (by decide) rfl ?_
  intro p e s m args below meth c s₁ B hml hv
  obtain ⟨rfl, hsz, hP, hK, hD0, hN⟩ := hv
  have hx := B.exec
  have hb := B.bytes
  have hr0 := B.returns
  have hts := atoms_spec (ws := wsX2_partsLike) B.pre
  have hown : s.vm.findClass RX2 = some m.cls := findClass_of_methodNamed B.named
  have hlocks := B.notSynchronized
  subst hsz
  have hD := hD0.self (sz := s.heap.size)
  generalize hAe : va_A [(d0, .inr (2, [.ref f0, .ref t0, .ref d1, .int pl])), (f0, .inr (3, [.ref f1, .int (nI KF)])), (f1, .inl (cI, 16, .inl ff)), (t0, .inr (3, [.ref t1, .int (nI KT)])), (t1, .inl (cI, 16, .inl tf)), (d1, .inl (cI, 16, .inl im))] s.heap.size = A at hD ⊢
  have hA : ∀ q : Nat, s.heap.size ≤ q → A q := fun q h => by rw [← hAe]; exact Or.inr h
  have hS : va_S A s.heap s.heap [] := va_S.rf
  have hl := lv_entry ([.ref d0, .int part, .int among]) (n := 7) (Nat.le_of_ble_eq_true rfl)
  rw [lg_entry_eq]
  generalize (lg_sl ([.ref d0, .int part, .int among]) ++ List.replicate (7 - (lg_sl ([.ref d0, .int part, .int among])).length) Slot.unset).toArray = ls at hl ⊢
  have hl : lv_has ls 7 [(0, .ref d0), (1, .int part), (2, .int among)] := hl
  obtain ⟨ρ, hρ⟩ : ∃ ρ : Int32 × (Nat → Int32) × Int32, ρ = P_partsLike ff KF KT tf im pl part among := ⟨_, rfl⟩
  have hr : P_partsLike ff KF KT tf im pl part among = ρ := hρ.symm
  rewrite [P_partsLike] at hr
  refine lv_iconst (v := 0) hx hb dX2_partsLike_0 (by decide) ?_
  refine lv_istore_n (lv' := [(3, .int 0), (0, .ref d0), (1, .int part), (2, .int among)]) hx hb dX2_partsLike_1 rfl hl (by decide) rfl (fun ls hl => ?_)
  refine lv_iload_n hx hb dX2_partsLike_2 rfl (lv_at hl 3 rfl) ?_
  refine lv_istore (lv' := [(4, .int among), (3, .int 0), (0, .ref d0), (1, .int part), (2, .int among)]) hx hb dX2_partsLike_3 hl (by decide) rfl (fun ls hl => ?_)
  refine lv_iconst (v := 0) hx hb dX2_partsLike_5 (by decide) ?_
  refine lv_istore (lv' := [(5, .int 0), (4, .int among), (3, .int 0), (0, .ref d0), (1, .int part), (2, .int among)]) hx hb dX2_partsLike_6 hl (by decide) rfl (fun ls hl => ?_)
  have ex_8 : ∀ (many : Int32) (left : Int32) (ia : Nat → Int32) (pa : Int32) (H : Heap) (locs : List Loc) (ls : Array Slot), ((many, ia, pa)) = ρ → va_P (dC, dI) kCl [(d0, .inr (2, [.ref f0, .ref t0, .ref d1, .int pa])), (f0, .inr (3, [.ref f1, .int (nI KF)])), (f1, .inl (cI, 16, .inl ff)), (t0, .inr (3, [.ref t1, .int (nI KT)])), (t1, .inl (cI, 16, .inl tf)), (d1, .inl (cI, 16, .inl ia))] H → va_D A [(d0, .inr (2, [.ref f0, .ref t0, .ref d1, .int pa])), (f0, .inr (3, [.ref f1, .int (nI KF)])), (f1, .inl (cI, 16, .inl ff)), (t0, .inr (3, [.ref t1, .int (nI KT)])), (t1, .inl (cI, 16, .inl tf)), (d1, .inl (cI, 16, .inl ia))] → va_S A s.heap H locs → lv_has ls 7 [(3, .int many), (4, .int left), (0, .ref d0), (1, .int part)] → W p l e (headSpec wsX2_partsLike rm_X2_partsLike).room s m (([.ref d0, .int part, .int among] : List Value).toArray) below meth c H locs 0 0 (MQ below (kVi dC dI (P_partsLike ff KF KT tf im pl part among).1 [(d0, .inr (2, [.ref f0, .ref t0, .ref d1, .int ((P_partsLike ff KF KT tf im pl part among).2.2)])), (f0, .inr (3, [.ref f1, .int (nI KF)])), (f1, .inl (cI, 16, .inl ff)), (t0, .inr (3, [.ref t1, .int (nI KT)])), (t1, .inl (cI, 16, .inl tf)), (d1, .inl (cI, 16, .inl ((P_partsLike ff KF KT tf im pl part among).2.1)))] A) (([.ref d0, .int part, .int among] : List Value).toArray) s 0 0 A) (F0 m 67 ls []) := by
    intro many left ia pa H locs ls hr hP hD hS hl
    refine lv_iload_n hx hb dX2_partsLike_67 rfl (lv_at hl 0 rfl) ?_
    have he := hr.trans hρ
    exact W.iret (v := many) hx hb hr0 (fun t ht hW => kVi_end (by rw [← he]) (by rw [← he]; exact hP) hS ht) hS.2.2 dX2_partsLike_68
  have lp_8 : ∀ (n_8 knot : Nat) (many : Int32) (left : Int32) (ia : Nat → Int32) (pa : Int32) (H : Heap) (locs : List Loc) (ls : Array Slot), knot + n_8 = KT → L_partsLike_8 ff KF KT tf part (fun many left ia pa => (many, ia, pa)) n_8 knot many left ia pa = ρ → va_P (dC, dI) kCl [(d0, .inr (2, [.ref f0, .ref t0, .ref d1, .int pa])), (f0, .inr (3, [.ref f1, .int (nI KF)])), (f1, .inl (cI, 16, .inl ff)), (t0, .inr (3, [.ref t1, .int (nI KT)])), (t1, .inl (cI, 16, .inl tf)), (d1, .inl (cI, 16, .inl ia))] H → va_D A [(d0, .inr (2, [.ref f0, .ref t0, .ref d1, .int pa])), (f0, .inr (3, [.ref f1, .int (nI KF)])), (f1, .inl (cI, 16, .inl ff)), (t0, .inr (3, [.ref t1, .int (nI KT)])), (t1, .inl (cI, 16, .inl tf)), (d1, .inl (cI, 16, .inl ia))] → va_S A s.heap H locs → lv_has ls 7 [(5, .int (nI knot)), (3, .int many), (4, .int left), (0, .ref d0), (1, .int part)] → W p l e (headSpec wsX2_partsLike rm_X2_partsLike).room s m (([.ref d0, .int part, .int among] : List Value).toArray) below meth c H locs 0 0 (MQ below (kVi dC dI (P_partsLike ff KF KT tf im pl part among).1 [(d0, .inr (2, [.ref f0, .ref t0, .ref d1, .int ((P_partsLike ff KF KT tf im pl part among).2.2)])), (f0, .inr (3, [.ref f1, .int (nI KF)])), (f1, .inl (cI, 16, .inl ff)), (t0, .inr (3, [.ref t1, .int (nI KT)])), (t1, .inl (cI, 16, .inl tf)), (d1, .inl (cI, 16, .inl ((P_partsLike ff KF KT tf im pl part among).2.1)))] A) (([.ref d0, .int part, .int among] : List Value).toArray) s 0 0 A) (F0 m 8 ls []) := by
    intro n_8
    induction n_8 with
    | zero =>
      intro knot many left ia pa H locs ls hi hr hP hD hS hl
      rewrite [L_partsLike_8] at hr
      refine lv_iload hx hb dX2_partsLike_8 (lv_at hl 0 rfl) ?_
      refine lv_aload_n hx hb dX2_partsLike_10 rfl (lv_at hl 3 rfl) ?_
      refine va_get (D := (dC, dI)) (ci := 2) (v := .ref t0) (C := RX2) (T := TX2) (N := 4) hx hb hts (by decide +kernel) hown hK hP 0 rfl rfl 1 (by decide) (hts (.fieldLink RX2 18 "Shortring$Likeness" "to" "LShortring$Net;") (by decide +kernel)) (fun _ h9 => h9) rfl dX2_partsLike_11 ?_
      refine va_getN (D := (dC, dI)) (ci := 3) (v := .int (nI KT)) (C := RX3) (T := TX3) (N := 2) hx hb hts (by decide +kernel) hown hK hP 3 rfl rfl 1 (by decide) (va_Nw.use rfl (hN.2 10 _ rfl)) (fun _ h9 => h9) rfl dX2_partsLike_14 ?_
      refine lv_icmp_ge (tgt := 67) hx hb dX2_partsLike_17 (by decide) (fun c_1 => ?_) (fun c_1 => ?_)
      · exact ex_8 many left ia pa _ _ _ hr hP hD hS (lv_sub hl [1, 2, 3, 4] rfl)
      · exact absurd (kTop (i := knot) (N := KT) rfl (by omega)) c_1
    | succ n_8 ih_8 =>
      intro knot many left ia pa H locs ls hi hr hP hD hS hl
      rewrite [L_partsLike_8] at hr
      refine lv_iload hx hb dX2_partsLike_8 (lv_at hl 0 rfl) ?_
      refine lv_aload_n hx hb dX2_partsLike_10 rfl (lv_at hl 3 rfl) ?_
      refine va_get (D := (dC, dI)) (ci := 2) (v := .ref t0) (C := RX2) (T := TX2) (N := 4) hx hb hts (by decide +kernel) hown hK hP 0 rfl rfl 1 (by decide) (hts (.fieldLink RX2 18 "Shortring$Likeness" "to" "LShortring$Net;") (by decide +kernel)) (fun _ h9 => h9) rfl dX2_partsLike_11 ?_
      refine va_getN (D := (dC, dI)) (ci := 3) (v := .int (nI KT)) (C := RX3) (T := TX3) (N := 2) hx hb hts (by decide +kernel) hown hK hP 3 rfl rfl 1 (by decide) (va_Nw.use rfl (hN.2 10 _ rfl)) (fun _ h9 => h9) rfl dX2_partsLike_14 ?_
      refine lv_icmp_ge (tgt := 67) hx hb dX2_partsLike_17 (by decide) (fun c_2 => ?_) (fun c_2 => ?_)
      · exact absurd c_2 (kLow (i := knot) (N := KT) rfl (by omega) (by omega))
      · refine lv_iload hx hb dX2_partsLike_20 (lv_at hl 2 rfl) ?_
        refine lv_iload hx hb dX2_partsLike_22 (lv_at hl 0 rfl) ?_
        refine kCall (va_runSN (As := [.int left, .int (nI knot)]) (rest := []) ⟨hx, hb, hml, hown, hts⟩ (k_X6_holds l dC dI cI cN left (nI knot)) ⟨va_cnB 2 hts gX2_partsLike_X6_holds_n36 rfl rfl rfl (hN.1 56 _ rfl) (hts (.initialized RX6) (by decide +kernel)) (by decide +kernel) ⟨Nat.le_of_ble_eq_true rfl, Nat.le_of_ble_eq_true rfl⟩, hts (.static yX6_holds) (by decide +kernel), trivial⟩ (kW_S hP hK hD hN [] rfl rfl rfl) rfl rfl hl.1 rfl (lv_room (Nat.le_of_ble_eq_true rfl)) dX2_partsLike_24 ⟨Nat.zero_le _, Nat.zero_le _⟩) hP hS (fun H locs hP hS => ?_)
        refine lv_if_eq (tgt := 61) hx hb dX2_partsLike_27 (by decide) (fun c_3 => ?_) (fun c_3 => ?_)
        · have hr := if_to hr c_3
          refine lv_iinc (v := nI (knot + 1)) (lv' := [(5, .int (nI (knot + 1))), (3, .int many), (4, .int left), (0, .ref d0), (1, .int part)]) hx hb dX2_partsLike_61 hl (k := 0) rfl (nI_1 _) (by decide) rfl (fun ls hl => ?_)
          refine lv_goto (tgt := 8) hx hb dX2_partsLike_64 (by decide) ?_
          exact ih_8 (knot + 1) many left ia pa _ _ _ (by omega) hr hP hD hS (lv_sub hl [0, 1, 2, 3, 4] rfl)
        · have hr := if_no hr c_3
          refine lv_aload_n hx hb dX2_partsLike_30 rfl (lv_at hl 3 rfl) ?_
          refine va_get (D := (dC, dI)) (ci := 2) (v := .ref t0) (C := RX2) (T := TX2) (N := 4) hx hb hts (by decide +kernel) hown hK hP 0 rfl rfl 1 (by decide) (hts (.fieldLink RX2 18 "Shortring$Likeness" "to" "LShortring$Net;") (by decide +kernel)) (fun _ h9 => h9) rfl dX2_partsLike_31 ?_
          refine lv_iload hx hb dX2_partsLike_34 (lv_at hl 0 rfl) ?_
          refine kCall (va_runSN (As := [.ref t0, .int (nI knot)]) (rest := []) ⟨hx, hb, hml, hown, hts⟩ (k_X5_partWith l dC dI cI cN t0 t1 KT tf (nI knot) (by first | assumption | omega | exact Int32.le_refl _ | decide)) ⟨va_cnB 2 hts gX2_partsLike_X5_partWith_n40 rfl rfl rfl (hN.1 57 _ rfl) (hts (.initialized RX5) (by decide +kernel)) (by decide +kernel) ⟨Nat.le_of_ble_eq_true rfl, Nat.le_of_ble_eq_true rfl⟩, hts (.static yX5_partWith) (by decide +kernel), trivial⟩ (kW_S hP hK hD hN [3, 4] rfl rfl rfl) rfl rfl hl.1 rfl (lv_room (Nat.le_of_ble_eq_true rfl)) dX2_partsLike_36 ⟨Nat.zero_le _, Nat.zero_le _⟩) hP hS (fun H locs hP hS => ?_)
          refine lv_topi (fun other_4 eother_4 => ?_)
          have hr := bd_to hr eother_4
          refine lv_istore (lv' := [(6, .int other_4), (5, .int (nI knot)), (3, .int many), (4, .int left), (0, .ref d0), (1, .int part)]) hx hb dX2_partsLike_39 hl (by decide) rfl (fun ls hl => ?_)
          refine lv_iload_n hx hb dX2_partsLike_41 rfl (lv_at hl 2 rfl) ?_
          refine lv_aload_n hx hb dX2_partsLike_42 rfl (lv_at hl 4 rfl) ?_
          refine lv_iload_n hx hb dX2_partsLike_43 rfl (lv_at hl 5 rfl) ?_
          refine lv_iload hx hb dX2_partsLike_44 (lv_at hl 0 rfl) ?_
          refine lv_iconst (v := 1) hx hb dX2_partsLike_46 (by decide) ?_
          refine kCallVi (wr := []) (va_runV (As := [.int part, .int other_4, .int 1]) (rest := [.int many]) ⟨hx, hb, hml, hown, hts⟩ (k_X2_waysOf l dC dI cI cN d0 f0 f1 t0 t1 d1 KF ff KT tf ia pa part other_4 1 (by first | assumption | omega | exact Int32.le_refl _ | decide) (by first | assumption | omega | exact Int32.le_refl _ | decide) _) (cwV 3 hts gX2_partsLike_X2_waysOf rfl rfl rfl (by decide +kernel) ⟨Nat.le_of_ble_eq_true rfl, Nat.le_of_ble_eq_true rfl⟩) (kU_V hP hK hD hN (ci := 2) (q0 := 0) rfl rfl [0, 1, 2, 3, 4, 5] rfl rfl rfl) rfl rfl hl.1 rfl (lv_room (Nat.le_of_ble_eq_true rfl)) dX2_partsLike_47 ⟨Nat.zero_le _, Nat.zero_le _⟩) hP hD hS hA [0, 1, 2, 3, 4, 5] [] rfl rfl rfl rfl (by decide) rfl (fun H locs hP hD hS => ?_)
          obtain ⟨r_5, er_5⟩ : ∃ y : Int32 × (Nat → Int32) × Int32, y = (P_waysOf ff KF KT tf ia pa part other_4 1) := ⟨_, rfl⟩
          rw [← er_5]
          try rw [← er_5] at hP hD
          have hr := bd_to hr er_5
          have hP : va_P (dC, dI) kCl [(d0, .inr (2, [.ref f0, .ref t0, .ref d1, .int r_5.2.2])), (f0, .inr (3, [.ref f1, .int (nI KF)])), (f1, .inl (cI, 16, .inl ff)), (t0, .inr (3, [.ref t1, .int (nI KT)])), (t1, .inl (cI, 16, .inl tf)), (d1, .inl (cI, 16, .inl r_5.2.1))] H := hP.sub [0, 1, 2, 3, 4, 5] rfl
          have hD : va_D A [(d0, .inr (2, [.ref f0, .ref t0, .ref d1, .int r_5.2.2])), (f0, .inr (3, [.ref f1, .int (nI KF)])), (f1, .inl (cI, 16, .inl ff)), (t0, .inr (3, [.ref t1, .int (nI KT)])), (t1, .inl (cI, 16, .inl tf)), (d1, .inl (cI, 16, .inl r_5.2.1))] := hD.sub [0, 1, 2, 3, 4, 5] (by decide) rfl
          refine lv_iadd hx hb dX2_partsLike_50 ?_
          refine lv_topi (fun many_6 emany_6 => ?_)
          have hr := bd_to hr emany_6
          refine lv_istore_n (lv' := [(3, .int many_6), (6, .int other_4), (5, .int (nI knot)), (4, .int left), (0, .ref d0), (1, .int part)]) hx hb dX2_partsLike_51 rfl hl (by decide) rfl (fun ls hl => ?_)
          refine lv_iload hx hb dX2_partsLike_52 (lv_at hl 3 rfl) ?_
          refine lv_iload hx hb dX2_partsLike_54 (lv_at hl 1 rfl) ?_
          refine lv_iconst (v := (-1)) hx hb dX2_partsLike_56 (by decide) ?_
          refine lv_ixor hx hb dX2_partsLike_57 ?_
          refine lv_iand hx hb dX2_partsLike_58 ?_
          refine lv_topi (fun left_7 eleft_7 => ?_)
          have hr := bd_to hr eleft_7
          refine lv_istore (lv' := [(4, .int left_7), (3, .int many_6), (6, .int other_4), (5, .int (nI knot)), (0, .ref d0), (1, .int part)]) hx hb dX2_partsLike_59 hl (by decide) rfl (fun ls hl => ?_)
          refine lv_iinc (v := nI (knot + 1)) (lv' := [(5, .int (nI (knot + 1))), (4, .int left_7), (3, .int many_6), (6, .int other_4), (0, .ref d0), (1, .int part)]) hx hb dX2_partsLike_61 hl (k := 3) rfl (nI_1 _) (by decide) rfl (fun ls hl => ?_)
          refine lv_goto (tgt := 8) hx hb dX2_partsLike_64 (by decide) ?_
          exact ih_8 (knot + 1) many_6 left_7 r_5.2.1 r_5.2.2 _ _ _ (by omega) hr hP hD hS (lv_sub hl [0, 2, 1, 4, 5] rfl)
  exact lp_8 KT 0 0 among im pl _ _ _ (by omega) hr hP hD hS (lv_sub hl [0, 2, 1, 3, 4] rfl)
def L_partMatching_5 (ff : Nat → Int32) (KF : Nat) (KT : Nat) (tf : Nat → Int32) (part : Int32) (k : Int32 → (Nat → Int32) → Int32 → Int32 × (Nat → Int32) × Int32) : Nat → Nat → Int32 → (Nat → Int32) → Int32 → Int32 × (Nat → Int32) × Int32
  | 0, knot, left, ia, pa => k left ia pa
  | n + 1, knot, left, ia, pa =>
    if (P_holds left (nI knot)) = 0 then
      L_partMatching_5 ff KF KT tf part k n (knot + 1) left ia pa
    else
      bd (P_partWith tf (nI knot)) (fun other_1 =>
        bd (P_waysOf ff KF KT tf ia pa part other_1 1) (fun r_2 =>
          if r_2.1 ≤ 0 then
            bd (left &&& (other_1 ^^^ (-1 : Int32))) (fun left_3 =>
              L_partMatching_5 ff KF KT tf part k n (knot + 1) left_3 r_2.2.1 r_2.2.2)
          else
            (other_1, r_2.2.1, r_2.2.2)))
def P_partMatching (ff : Nat → Int32) (KF : Nat) (KT : Nat) (tf : Nat → Int32) (im : Nat → Int32) (pl : Int32) (part : Int32) (among : Int32) : Int32 × (Nat → Int32) × Int32 :=
  L_partMatching_5 ff KF KT tf part (fun left ia pa => (0, ia, pa)) KT 0 among im pl
abbrev rm_X2_partMatching : Room := { frames := 20, cells := 0, slots := 0, locals := 547 }
set_option maxHeartbeats 4000000 in
set_option maxRecDepth 100000 in
theorem k_X2_partMatching (l : Launch) (dC : Nat → ClassId) (dI : Nat → Nat → Nat) (cI cN : ClassId) (d0 : Nat) (f0 : Nat) (f1 : Nat) (t0 : Nat) (t1 : Nat) (d1 : Nat) (KF : Nat) (ff : Nat → Int32) (KT : Nat) (tf : Nat → Int32) (im : Nat → Int32) (pl : Int32) (part : Int32) (among : Int32) (hKF : KF ≤ 16) (hKT : KT ≤ 16) (sz : Nat) : Met l yX2_partMatching wsX2_partMatching rm_X2_partMatching (va_Pc [.ref d0, .int part, .int among] (kU dC dI cI cN [(d0, .inr (2, [.ref f0, .ref t0, .ref d1, .int pl])), (f0, .inr (3, [.ref f1, .int (nI KF)])), (f1, .inl (cI, 16, .inl ff)), (t0, .inr (3, [.ref t1, .int (nI KT)])), (t1, .inl (cI, 16, .inl tf)), (d1, .inl (cI, 16, .inl im))] sz)) (kVi dC dI (P_partMatching ff KF KT tf im pl part among).1 [(d0, .inr (2, [.ref f0, .ref t0, .ref d1, .int ((P_partMatching ff KF KT tf im pl part among).2.2)])), (f0, .inr (3, [.ref f1, .int (nI KF)])), (f1, .inl (cI, 16, .inl ff)), (t0, .inr (3, [.ref t1, .int (nI KT)])), (t1, .inl (cI, 16, .inl tf)), (d1, .inl (cI, 16, .inl ((P_partMatching ff KF KT tf im pl part among).2.1)))] (va_A [(d0, .inr (2, [.ref f0, .ref t0, .ref d1, .int pl])), (f0, .inr (3, [.ref f1, .int (nI KF)])), (f1, .inl (cI, 16, .inl ff)), (t0, .inr (3, [.ref t1, .int (nI KT)])), (t1, .inl (cI, 16, .inl tf)), (d1, .inl (cI, 16, .inl im))] sz)) 0 0 (va_A [(d0, .inr (2, [.ref f0, .ref t0, .ref d1, .int pl])), (f0, .inr (3, [.ref f1, .int (nI KF)])), (f1, .inl (cI, 16, .inl ff)), (t0, .inr (3, [.ref t1, .int (nI KT)])), (t1, .inl (cI, 16, .inl tf)), (d1, .inl (cI, 16, .inl im))] sz) := by
  refine Met.ofW (cc := cX2_partMatching) (maxL := 6) (ret := (some .int)) (by decide) rfl ?_
  intro p e s m args below meth c s₁ B hml hv
  obtain ⟨rfl, hsz, hP, hK, hD0, hN⟩ := hv
  have hx := B.exec
  have hb := B.bytes
  have hr0 := B.returns
  have hts := atoms_spec (ws := wsX2_partMatching) B.pre
  have hown : s.vm.findClass RX2 = some m.cls := findClass_of_methodNamed B.named
  have hlocks := B.notSynchronized
  subst hsz
  have hD := hD0.self (sz := s.heap.size)
  generalize hAe : va_A [(d0, .inr (2, [.ref f0, .ref t0, .ref d1, .int pl])), (f0, .inr (3, [.ref f1, .int (nI KF)])), (f1, .inl (cI, 16, .inl ff)), (t0, .inr (3, [.ref t1, .int (nI KT)])), (t1, .inl (cI, 16, .inl tf)), (d1, .inl (cI, 16, .inl im))] s.heap.size = A at hD ⊢
  have hA : ∀ q : Nat, s.heap.size ≤ q → A q := fun q h => by rw [← hAe]; exact Or.inr h
  have hS : va_S A s.heap s.heap [] := va_S.rf
  have hl := lv_entry ([.ref d0, .int part, .int among]) (n := 6) (Nat.le_of_ble_eq_true rfl)
  rw [lg_entry_eq]
  generalize (lg_sl ([.ref d0, .int part, .int among]) ++ List.replicate (6 - (lg_sl ([.ref d0, .int part, .int among])).length) Slot.unset).toArray = ls at hl ⊢
  have hl : lv_has ls 6 [(0, .ref d0), (1, .int part), (2, .int among)] := hl
  obtain ⟨ρ, hρ⟩ : ∃ ρ : Int32 × (Nat → Int32) × Int32, ρ = P_partMatching ff KF KT tf im pl part among := ⟨_, rfl⟩
  have hr : P_partMatching ff KF KT tf im pl part among = ρ := hρ.symm
  rewrite [P_partMatching] at hr
  refine lv_iload_n hx hb dX2_partMatching_0 rfl (lv_at hl 2 rfl) ?_
  refine lv_istore_n (lv' := [(3, .int among), (0, .ref d0), (1, .int part), (2, .int among)]) hx hb dX2_partMatching_1 rfl hl (by decide) rfl (fun ls hl => ?_)
  refine lv_iconst (v := 0) hx hb dX2_partMatching_2 (by decide) ?_
  refine lv_istore (lv' := [(4, .int 0), (3, .int among), (0, .ref d0), (1, .int part), (2, .int among)]) hx hb dX2_partMatching_3 hl (by decide) rfl (fun ls hl => ?_)
  have ex_5 : ∀ (left : Int32) (ia : Nat → Int32) (pa : Int32) (H : Heap) (locs : List Loc) (ls : Array Slot), ((0, ia, pa)) = ρ → va_P (dC, dI) kCl [(d0, .inr (2, [.ref f0, .ref t0, .ref d1, .int pa])), (f0, .inr (3, [.ref f1, .int (nI KF)])), (f1, .inl (cI, 16, .inl ff)), (t0, .inr (3, [.ref t1, .int (nI KT)])), (t1, .inl (cI, 16, .inl tf)), (d1, .inl (cI, 16, .inl ia))] H → va_D A [(d0, .inr (2, [.ref f0, .ref t0, .ref d1, .int pa])), (f0, .inr (3, [.ref f1, .int (nI KF)])), (f1, .inl (cI, 16, .inl ff)), (t0, .inr (3, [.ref t1, .int (nI KT)])), (t1, .inl (cI, 16, .inl tf)), (d1, .inl (cI, 16, .inl ia))] → va_S A s.heap H locs → lv_has ls 6 [(3, .int left), (0, .ref d0), (1, .int part)] → W p l e (headSpec wsX2_partMatching rm_X2_partMatching).room s m (([.ref d0, .int part, .int among] : List Value).toArray) below meth c H locs 0 0 (MQ below (kVi dC dI (P_partMatching ff KF KT tf im pl part among).1 [(d0, .inr (2, [.ref f0, .ref t0, .ref d1, .int ((P_partMatching ff KF KT tf im pl part among).2.2)])), (f0, .inr (3, [.ref f1, .int (nI KF)])), (f1, .inl (cI, 16, .inl ff)), (t0, .inr (3, [.ref t1, .int (nI KT)])), (t1, .inl (cI, 16, .inl tf)), (d1, .inl (cI, 16, .inl ((P_partMatching ff KF KT tf im pl part among).2.1)))] A) (([.ref d0, .int part, .int among] : List Value).toArray) s 0 0 A) (F0 m 64 ls []) := by
    intro left ia pa H locs ls hr hP hD hS hl
    refine lv_iconst (v := 0) hx hb dX2_partMatching_64 (by decide) ?_
    have he := hr.trans hρ
    exact W.iret (v := 0) hx hb hr0 (fun t ht hW => kVi_end (by rw [← he]) (by rw [← he]; exact hP) hS ht) hS.2.2 dX2_partMatching_65
  have lp_5 : ∀ (n_5 knot : Nat) (left : Int32) (ia : Nat → Int32) (pa : Int32) (H : Heap) (locs : List Loc) (ls : Array Slot), knot + n_5 = KT → L_partMatching_5 ff KF KT tf part (fun left ia pa => (0, ia, pa)) n_5 knot left ia pa = ρ → va_P (dC, dI) kCl [(d0, .inr (2, [.ref f0, .ref t0, .ref d1, .int pa])), (f0, .inr (3, [.ref f1, .int (nI KF)])), (f1, .inl (cI, 16, .inl ff)), (t0, .inr (3, [.ref t1, .int (nI KT)])), (t1, .inl (cI, 16, .inl tf)), (d1, .inl (cI, 16, .inl ia))] H → va_D A [(d0, .inr (2, [.ref f0, .ref t0, .ref d1, .int pa])), (f0, .inr (3, [.ref f1, .int (nI KF)])), (f1, .inl (cI, 16, .inl ff)), (t0, .inr (3, [.ref t1, .int (nI KT)])), (t1, .inl (cI, 16, .inl tf)), (d1, .inl (cI, 16, .inl ia))] → va_S A s.heap H locs → lv_has ls 6 [(4, .int (nI knot)), (3, .int left), (0, .ref d0), (1, .int part)] → W p l e (headSpec wsX2_partMatching rm_X2_partMatching).room s m (([.ref d0, .int part, .int among] : List Value).toArray) below meth c H locs 0 0 (MQ below (kVi dC dI (P_partMatching ff KF KT tf im pl part among).1 [(d0, .inr (2, [.ref f0, .ref t0, .ref d1, .int ((P_partMatching ff KF KT tf im pl part among).2.2)])), (f0, .inr (3, [.ref f1, .int (nI KF)])), (f1, .inl (cI, 16, .inl ff)), (t0, .inr (3, [.ref t1, .int (nI KT)])), (t1, .inl (cI, 16, .inl tf)), (d1, .inl (cI, 16, .inl ((P_partMatching ff KF KT tf im pl part among).2.1)))] A) (([.ref d0, .int part, .int among] : List Value).toArray) s 0 0 A) (F0 m 5 ls []) := by
    intro n_5
    induction n_5 with
    | zero =>
      intro knot left ia pa H locs ls hi hr hP hD hS hl
      rewrite [L_partMatching_5] at hr
      refine lv_iload hx hb dX2_partMatching_5 (lv_at hl 0 rfl) ?_
      refine lv_aload_n hx hb dX2_partMatching_7 rfl (lv_at hl 2 rfl) ?_
      refine va_get (D := (dC, dI)) (ci := 2) (v := .ref t0) (C := RX2) (T := TX2) (N := 4) hx hb hts (by decide +kernel) hown hK hP 0 rfl rfl 1 (by decide) (hts (.fieldLink RX2 18 "Shortring$Likeness" "to" "LShortring$Net;") (by decide +kernel)) (fun _ h9 => h9) rfl dX2_partMatching_8 ?_
      refine va_getN (D := (dC, dI)) (ci := 3) (v := .int (nI KT)) (C := RX3) (T := TX3) (N := 2) hx hb hts (by decide +kernel) hown hK hP 3 rfl rfl 1 (by decide) (va_Nw.use rfl (hN.2 10 _ rfl)) (fun _ h9 => h9) rfl dX2_partMatching_11 ?_
      refine lv_icmp_ge (tgt := 64) hx hb dX2_partMatching_14 (by decide) (fun c_1 => ?_) (fun c_1 => ?_)
      · exact ex_5 left ia pa _ _ _ hr hP hD hS (lv_sub hl [1, 2, 3] rfl)
      · exact absurd (kTop (i := knot) (N := KT) rfl (by omega)) c_1
    | succ n_5 ih_5 =>
      intro knot left ia pa H locs ls hi hr hP hD hS hl
      rewrite [L_partMatching_5] at hr
      refine lv_iload hx hb dX2_partMatching_5 (lv_at hl 0 rfl) ?_
      refine lv_aload_n hx hb dX2_partMatching_7 rfl (lv_at hl 2 rfl) ?_
      refine va_get (D := (dC, dI)) (ci := 2) (v := .ref t0) (C := RX2) (T := TX2) (N := 4) hx hb hts (by decide +kernel) hown hK hP 0 rfl rfl 1 (by decide) (hts (.fieldLink RX2 18 "Shortring$Likeness" "to" "LShortring$Net;") (by decide +kernel)) (fun _ h9 => h9) rfl dX2_partMatching_8 ?_
      refine va_getN (D := (dC, dI)) (ci := 3) (v := .int (nI KT)) (C := RX3) (T := TX3) (N := 2) hx hb hts (by decide +kernel) hown hK hP 3 rfl rfl 1 (by decide) (va_Nw.use rfl (hN.2 10 _ rfl)) (fun _ h9 => h9) rfl dX2_partMatching_11 ?_
      refine lv_icmp_ge (tgt := 64) hx hb dX2_partMatching_14 (by decide) (fun c_2 => ?_) (fun c_2 => ?_)
      · exact absurd c_2 (kLow (i := knot) (N := KT) rfl (by omega) (by omega))
      · refine lv_iload_n hx hb dX2_partMatching_17 rfl (lv_at hl 1 rfl) ?_
        refine lv_iload hx hb dX2_partMatching_18 (lv_at hl 0 rfl) ?_
        refine kCall (va_runSN (As := [.int left, .int (nI knot)]) (rest := []) ⟨hx, hb, hml, hown, hts⟩ (k_X6_holds l dC dI cI cN left (nI knot)) ⟨va_cnB 2 hts gX2_partMatching_X6_holds_n36 rfl rfl rfl (hN.1 56 _ rfl) (hts (.initialized RX6) (by decide +kernel)) (by decide +kernel) ⟨Nat.le_of_ble_eq_true rfl, Nat.le_of_ble_eq_true rfl⟩, hts (.static yX6_holds) (by decide +kernel), trivial⟩ (kW_S hP hK hD hN [] rfl rfl rfl) rfl rfl hl.1 rfl (lv_room (Nat.le_of_ble_eq_true rfl)) dX2_partMatching_20 ⟨Nat.zero_le _, Nat.zero_le _⟩) hP hS (fun H locs hP hS => ?_)
        refine lv_if_eq (tgt := 58) hx hb dX2_partMatching_23 (by decide) (fun c_3 => ?_) (fun c_3 => ?_)
        · have hr := if_to hr c_3
          refine lv_iinc (v := nI (knot + 1)) (lv' := [(4, .int (nI (knot + 1))), (3, .int left), (0, .ref d0), (1, .int part)]) hx hb dX2_partMatching_58 hl (k := 0) rfl (nI_1 _) (by decide) rfl (fun ls hl => ?_)
          refine lv_goto (tgt := 5) hx hb dX2_partMatching_61 (by decide) ?_
          exact ih_5 (knot + 1) left ia pa _ _ _ (by omega) hr hP hD hS (lv_sub hl [0, 1, 2, 3] rfl)
        · have hr := if_no hr c_3
          refine lv_aload_n hx hb dX2_partMatching_26 rfl (lv_at hl 2 rfl) ?_
          refine va_get (D := (dC, dI)) (ci := 2) (v := .ref t0) (C := RX2) (T := TX2) (N := 4) hx hb hts (by decide +kernel) hown hK hP 0 rfl rfl 1 (by decide) (hts (.fieldLink RX2 18 "Shortring$Likeness" "to" "LShortring$Net;") (by decide +kernel)) (fun _ h9 => h9) rfl dX2_partMatching_27 ?_
          refine lv_iload hx hb dX2_partMatching_30 (lv_at hl 0 rfl) ?_
          refine kCall (va_runSN (As := [.ref t0, .int (nI knot)]) (rest := []) ⟨hx, hb, hml, hown, hts⟩ (k_X5_partWith l dC dI cI cN t0 t1 KT tf (nI knot) (by first | assumption | omega | exact Int32.le_refl _ | decide)) ⟨va_cnB 2 hts gX2_partMatching_X5_partWith_n40 rfl rfl rfl (hN.1 57 _ rfl) (hts (.initialized RX5) (by decide +kernel)) (by decide +kernel) ⟨Nat.le_of_ble_eq_true rfl, Nat.le_of_ble_eq_true rfl⟩, hts (.static yX5_partWith) (by decide +kernel), trivial⟩ (kW_S hP hK hD hN [3, 4] rfl rfl rfl) rfl rfl hl.1 rfl (lv_room (Nat.le_of_ble_eq_true rfl)) dX2_partMatching_32 ⟨Nat.zero_le _, Nat.zero_le _⟩) hP hS (fun H locs hP hS => ?_)
          refine lv_topi (fun other_4 eother_4 => ?_)
          have hr := bd_to hr eother_4
          refine lv_istore (lv' := [(5, .int other_4), (4, .int (nI knot)), (3, .int left), (0, .ref d0), (1, .int part)]) hx hb dX2_partMatching_35 hl (by decide) rfl (fun ls hl => ?_)
          refine lv_aload_n hx hb dX2_partMatching_37 rfl (lv_at hl 3 rfl) ?_
          refine lv_iload_n hx hb dX2_partMatching_38 rfl (lv_at hl 4 rfl) ?_
          refine lv_iload hx hb dX2_partMatching_39 (lv_at hl 0 rfl) ?_
          refine lv_iconst (v := 1) hx hb dX2_partMatching_41 (by decide) ?_
          refine kCallVi (wr := []) (va_runV (As := [.int part, .int other_4, .int 1]) (rest := []) ⟨hx, hb, hml, hown, hts⟩ (k_X2_waysOf l dC dI cI cN d0 f0 f1 t0 t1 d1 KF ff KT tf ia pa part other_4 1 (by first | assumption | omega | exact Int32.le_refl _ | decide) (by first | assumption | omega | exact Int32.le_refl _ | decide) _) (cwV 3 hts gX2_partMatching_X2_waysOf rfl rfl rfl (by decide +kernel) ⟨Nat.le_of_ble_eq_true rfl, Nat.le_of_ble_eq_true rfl⟩) (kU_V hP hK hD hN (ci := 2) (q0 := 0) rfl rfl [0, 1, 2, 3, 4, 5] rfl rfl rfl) rfl rfl hl.1 rfl (lv_room (Nat.le_of_ble_eq_true rfl)) dX2_partMatching_42 ⟨Nat.zero_le _, Nat.zero_le _⟩) hP hD hS hA [0, 1, 2, 3, 4, 5] [] rfl rfl rfl rfl (by decide) rfl (fun H locs hP hD hS => ?_)
          obtain ⟨r_5, er_5⟩ : ∃ y : Int32 × (Nat → Int32) × Int32, y = (P_waysOf ff KF KT tf ia pa part other_4 1) := ⟨_, rfl⟩
          rw [← er_5]
          try rw [← er_5] at hP hD
          have hr := bd_to hr er_5
          have hP : va_P (dC, dI) kCl [(d0, .inr (2, [.ref f0, .ref t0, .ref d1, .int r_5.2.2])), (f0, .inr (3, [.ref f1, .int (nI KF)])), (f1, .inl (cI, 16, .inl ff)), (t0, .inr (3, [.ref t1, .int (nI KT)])), (t1, .inl (cI, 16, .inl tf)), (d1, .inl (cI, 16, .inl r_5.2.1))] H := hP.sub [0, 1, 2, 3, 4, 5] rfl
          have hD : va_D A [(d0, .inr (2, [.ref f0, .ref t0, .ref d1, .int r_5.2.2])), (f0, .inr (3, [.ref f1, .int (nI KF)])), (f1, .inl (cI, 16, .inl ff)), (t0, .inr (3, [.ref t1, .int (nI KT)])), (t1, .inl (cI, 16, .inl tf)), (d1, .inl (cI, 16, .inl r_5.2.1))] := hD.sub [0, 1, 2, 3, 4, 5] (by decide) rfl
          refine lv_if_le (tgt := 51) hx hb dX2_partMatching_45 (by decide) (fun c_6 => ?_) (fun c_6 => ?_)
          · have hr := if_to hr c_6
            refine lv_iload_n hx hb dX2_partMatching_51 rfl (lv_at hl 2 rfl) ?_
            refine lv_iload hx hb dX2_partMatching_52 (lv_at hl 0 rfl) ?_
            refine lv_iconst (v := (-1)) hx hb dX2_partMatching_54 (by decide) ?_
            refine lv_ixor hx hb dX2_partMatching_55 ?_
            refine lv_iand hx hb dX2_partMatching_56 ?_
            refine lv_topi (fun left_7 eleft_7 => ?_)
            have hr := bd_to hr eleft_7
            refine lv_istore_n (lv' := [(3, .int left_7), (5, .int other_4), (4, .int (nI knot)), (0, .ref d0), (1, .int part)]) hx hb dX2_partMatching_57 rfl hl (by decide) rfl (fun ls hl => ?_)
            refine lv_iinc (v := nI (knot + 1)) (lv' := [(4, .int (nI (knot + 1))), (3, .int left_7), (5, .int other_4), (0, .ref d0), (1, .int part)]) hx hb dX2_partMatching_58 hl (k := 2) rfl (nI_1 _) (by decide) rfl (fun ls hl => ?_)
            refine lv_goto (tgt := 5) hx hb dX2_partMatching_61 (by decide) ?_
            exact ih_5 (knot + 1) left_7 r_5.2.1 r_5.2.2 _ _ _ (by omega) hr hP hD hS (lv_sub hl [0, 1, 3, 4] rfl)
          · have hr := if_no hr c_6
            refine lv_iload hx hb dX2_partMatching_48 (lv_at hl 0 rfl) ?_
            have he := hr.trans hρ
            exact W.iret (v := other_4) hx hb hr0 (fun t ht hW => kVi_end (by rw [← he]) (by rw [← he]; exact hP) hS ht) hS.2.2 dX2_partMatching_50
  exact lp_5 KT 0 among im pl _ _ _ (by omega) hr hP hD hS (lv_sub hl [0, 1, 2, 3] rfl)

/-! the object: its inner methods (printed by wip/gen) -/
def P_countByJumps (knots : Int32) (jumps : Int32) : Int32 :=
  bd ((2 : Int32) * (P_bitCount jumps)) (fun count_1 =>
    if (knots - knots / (2 : Int32) * (2 : Int32)) = 0 then
      if (P_holds jumps (knots / (2 : Int32))) = 0 then
        count_1
      else
        count_1 - (1 : Int32)
    else
      count_1)
abbrev rm_X6_countByJumps : Room := { frames := 1, cells := 0, slots := 0, locals := 21 }
set_option maxHeartbeats 4000000 in
set_option maxRecDepth 100000 in
theorem k_X6_countByJumps (l : Launch) (dC : Nat → ClassId) (dI : Nat → Nat → Nat) (cI cN : ClassId) (knots : Int32) (jumps : Int32) : Met l yX6_countByJumps wsX6_countByJumps rm_X6_countByJumps (va_Pc [.int knots, .int jumps] (kW dC dI cI cN [])) (kR (P_countByJumps knots jumps)) 0 0 (fun _ => False) := by
  refine Met.ofW (cc := cX6_countByJumps) (maxL := 4) (ret := (some .int)) (by decide) rfl ?_
  intro p e s m args below meth c s₁ B hml hv
  obtain ⟨rfl, hP, hK, hD, hN⟩ := hv
  have hx := B.exec
  have hb := B.bytes
  have hr0 := B.returns
  have hts := atoms_spec (ws := wsX6_countByJumps) B.pre
  have hown : s.vm.findClass RX6 = some m.cls := findClass_of_methodNamed B.named
  have hlocks := B.notSynchronized
  have hS : va_S (fun _ => False) s.heap s.heap [] := va_S.rf
  have hl := lv_entry ([.int knots, .int jumps]) (n := 4) (Nat.le_of_ble_eq_true rfl)
  rw [lg_entry_eq]
  generalize (lg_sl ([.int knots, .int jumps]) ++ List.replicate (4 - (lg_sl ([.int knots, .int jumps])).length) Slot.unset).toArray = ls at hl ⊢
  have hl : lv_has ls 4 [(0, .int knots), (1, .int jumps)] := hl
  obtain ⟨ρ, hρ⟩ : ∃ ρ : Int32, ρ = P_countByJumps knots jumps := ⟨_, rfl⟩
  have hr : P_countByJumps knots jumps = ρ := hρ.symm
  rewrite [P_countByJumps] at hr
  refine lv_iconst (v := 2) hx hb dX6_countByJumps_0 (by decide) ?_
  refine lv_iload_n hx hb dX6_countByJumps_1 rfl (lv_at hl 1 rfl) ?_
  refine kCall (va_runS (As := [.int jumps]) (rest := [.int 2]) ⟨hx, hb, hml, hown, hts⟩ (k_J6_bitCount_0f7a4 l dC dI cI cN jumps) (va_cwS 1 hts gX6_countByJumps_J6_bitCount_0f7a4 rfl rfl rfl (by decide +kernel) ⟨Nat.le_of_ble_eq_true rfl, Nat.le_of_ble_eq_true rfl⟩) (kW_S hP hK hD hN [] rfl rfl rfl) rfl rfl hl.1 rfl (lv_room (Nat.le_of_ble_eq_true rfl)) dX6_countByJumps_2 ⟨Nat.zero_le _, Nat.zero_le _⟩) hP hS (fun H locs hP hS => ?_)
  refine lv_imul hx hb dX6_countByJumps_5 ?_
  refine lv_topi (fun count_1 ecount_1 => ?_)
  have hr := bd_to hr ecount_1
  refine lv_istore_n (lv' := [(2, .int count_1), (0, .int knots), (1, .int jumps)]) hx hb dX6_countByJumps_6 rfl hl (by decide) rfl (fun ls hl => ?_)
  refine lv_iload_n hx hb dX6_countByJumps_7 rfl (lv_at hl 1 rfl) ?_
  refine lv_iconst (v := 2) hx hb dX6_countByJumps_8 (by decide) ?_
  refine lv_irem hx hb dX6_countByJumps_9 (by decide) ?_
  refine lv_if_ne (tgt := 27) hx hb dX6_countByJumps_10 (by decide) (fun c_2 => ?_) (fun c_2 => ?_)
  · have hr := if_no hr c_2
    refine lv_iconst (v := 0) hx hb dX6_countByJumps_27 (by decide) ?_
    refine lv_istore_n (lv' := [(3, .int 0), (2, .int count_1), (0, .int knots), (1, .int jumps)]) hx hb dX6_countByJumps_28 rfl hl (by decide) rfl (fun ls hl => ?_)
    refine lv_iload_n hx hb dX6_countByJumps_29 rfl (lv_at hl 0 rfl) ?_
    refine lv_if_eq (tgt := 39) hx hb dX6_countByJumps_30 (by decide) (fun c_3 => ?_) (fun c_3 => ?_)
    · refine lv_iload_n hx hb dX6_countByJumps_39 rfl (lv_at hl 1 rfl) ?_
      have he := hr.trans hρ
      exact W.iret (v := count_1) hx hb hr0 (fun t ht hW => kR_end he hS ht) hS.2.2 dX6_countByJumps_40
    · exact absurd c_3 (by decide)
  · have hr := if_to hr c_2
    refine lv_iload_n hx hb dX6_countByJumps_13 rfl (lv_at hl 2 rfl) ?_
    refine lv_iload_n hx hb dX6_countByJumps_14 rfl (lv_at hl 1 rfl) ?_
    refine lv_iconst (v := 2) hx hb dX6_countByJumps_15 (by decide) ?_
    refine lv_idiv hx hb dX6_countByJumps_16 (by decide) ?_
    refine kCall (va_runS (As := [.int jumps, .int (knots / (2 : Int32))]) (rest := []) ⟨hx, hb, hml, hown, hts⟩ (k_X6_holds l dC dI cI cN jumps (knots / (2 : Int32))) (va_cwS 2 hts gX6_countByJumps_X6_holds rfl rfl rfl (by decide +kernel) ⟨Nat.le_of_ble_eq_true rfl, Nat.le_of_ble_eq_true rfl⟩) (kW_S hP hK hD hN [] rfl rfl rfl) rfl rfl hl.1 rfl (lv_room (Nat.le_of_ble_eq_true rfl)) dX6_countByJumps_17 ⟨Nat.zero_le _, Nat.zero_le _⟩) hP hS (fun H locs hP hS => ?_)
    refine lv_if_eq (tgt := 27) hx hb dX6_countByJumps_20 (by decide) (fun c_4 => ?_) (fun c_4 => ?_)
    · have hr := if_to hr c_4
      refine lv_iconst (v := 0) hx hb dX6_countByJumps_27 (by decide) ?_
      refine lv_istore_n (lv' := [(3, .int 0), (2, .int count_1), (0, .int knots), (1, .int jumps)]) hx hb dX6_countByJumps_28 rfl hl (by decide) rfl (fun ls hl => ?_)
      refine lv_iload_n hx hb dX6_countByJumps_29 rfl (lv_at hl 0 rfl) ?_
      refine lv_if_eq (tgt := 39) hx hb dX6_countByJumps_30 (by decide) (fun c_5 => ?_) (fun c_5 => ?_)
      · refine lv_iload_n hx hb dX6_countByJumps_39 rfl (lv_at hl 1 rfl) ?_
        have he := hr.trans hρ
        exact W.iret (v := count_1) hx hb hr0 (fun t ht hW => kR_end he hS ht) hS.2.2 dX6_countByJumps_40
      · exact absurd c_5 (by decide)
    · have hr := if_no hr c_4
      refine lv_iconst (v := 1) hx hb dX6_countByJumps_23 (by decide) ?_
      refine lv_goto (tgt := 28) hx hb dX6_countByJumps_24 (by decide) ?_
      refine lv_istore_n (lv' := [(3, .int 1), (2, .int count_1), (0, .int knots), (1, .int jumps)]) hx hb dX6_countByJumps_28 rfl hl (by decide) rfl (fun ls hl => ?_)
      refine lv_iload_n hx hb dX6_countByJumps_29 rfl (lv_at hl 0 rfl) ?_
      refine lv_if_eq (tgt := 39) hx hb dX6_countByJumps_30 (by decide) (fun c_6 => ?_) (fun c_6 => ?_)
      · exact absurd c_6 (by decide)
      · refine lv_iload_n hx hb dX6_countByJumps_33 rfl (lv_at hl 1 rfl) ?_
        refine lv_iconst (v := 1) hx hb dX6_countByJumps_34 (by decide) ?_
        refine lv_isub hx hb dX6_countByJumps_35 ?_
        refine lv_goto (tgt := 40) hx hb dX6_countByJumps_36 (by decide) ?_
        have he := hr.trans hρ
        exact W.iret (v := count_1 - (1 : Int32)) hx hb hr0 (fun t ht hW => kR_end he hS ht) hS.2.2 dX6_countByJumps_40
def P_turned (pair : Int32) (isTurned : Int32) : Int32 :=
  if isTurned = 0 then
    pair
  else
    P_pairOf (P_otherOf pair) (P_oneOf pair)
abbrev rm_X6_turned : Room := { frames := 1, cells := 0, slots := 0, locals := 21 }
set_option maxHeartbeats 4000000 in
set_option maxRecDepth 100000 in
theorem k_X6_turned (l : Launch) (dC : Nat → ClassId) (dI : Nat → Nat → Nat) (cI cN : ClassId) (pair : Int32) (isTurned : Int32) : Met l yX6_turned wsX6_turned rm_X6_turned (va_Pc [.int pair, .int isTurned] (kW dC dI cI cN [])) (kR (P_turned pair isTurned)) 0 0 (fun _ => False) := by
  refine Met.ofW (cc := cX6_turned) (maxL := 2) (ret := (some .int)) (by decide) rfl ?_
  intro p e s m args below meth c s₁ B hml hv
  obtain ⟨rfl, hP, hK, hD, hN⟩ := hv
  have hx := B.exec
  have hb := B.bytes
  have hr0 := B.returns
  have hts := atoms_spec (ws := wsX6_turned) B.pre
  have hown : s.vm.findClass RX6 = some m.cls := findClass_of_methodNamed B.named
  have hlocks := B.notSynchronized
  have hS : va_S (fun _ => False) s.heap s.heap [] := va_S.rf
  have hl := lv_entry ([.int pair, .int isTurned]) (n := 2) (Nat.le_of_ble_eq_true rfl)
  rw [lg_entry_eq]
  generalize (lg_sl ([.int pair, .int isTurned]) ++ List.replicate (2 - (lg_sl ([.int pair, .int isTurned])).length) Slot.unset).toArray = ls at hl ⊢
  have hl : lv_has ls 2 [(0, .int pair), (1, .int isTurned)] := hl
  obtain ⟨ρ, hρ⟩ : ∃ ρ : Int32, ρ = P_turned pair isTurned := ⟨_, rfl⟩
  have hr : P_turned pair isTurned = ρ := hρ.symm
  rewrite [P_turned] at hr
  refine lv_iload_n hx hb dX6_turned_0 rfl (lv_at hl 1 rfl) ?_
  refine lv_if_eq (tgt := 18) hx hb dX6_turned_1 (by decide) (fun c_1 => ?_) (fun c_1 => ?_)
  · have hr := if_to hr c_1
    refine lv_iload_n hx hb dX6_turned_18 rfl (lv_at hl 0 rfl) ?_
    have he := hr.trans hρ
    exact W.iret (v := pair) hx hb hr0 (fun t ht hW => kR_end he hS ht) hS.2.2 dX6_turned_19
  · have hr := if_no hr c_1
    refine lv_iload_n hx hb dX6_turned_4 rfl (lv_at hl 0 rfl) ?_
    refine kCall (va_runS (As := [.int pair]) (rest := []) ⟨hx, hb, hml, hown, hts⟩ (k_X6_otherOf l dC dI cI cN pair) (va_cwS 1 hts gX6_turned_X6_otherOf rfl rfl rfl (by decide +kernel) ⟨Nat.le_of_ble_eq_true rfl, Nat.le_of_ble_eq_true rfl⟩) (kW_S hP hK hD hN [] rfl rfl rfl) rfl rfl hl.1 rfl (lv_room (Nat.le_of_ble_eq_true rfl)) dX6_turned_5 ⟨Nat.zero_le _, Nat.zero_le _⟩) hP hS (fun H locs hP hS => ?_)
    refine lv_iload_n hx hb dX6_turned_8 rfl (lv_at hl 0 rfl) ?_
    refine kCall (va_runS (As := [.int pair]) (rest := [.int (P_otherOf pair)]) ⟨hx, hb, hml, hown, hts⟩ (k_X6_oneOf l dC dI cI cN pair) (va_cwS 1 hts gX6_turned_X6_oneOf rfl rfl rfl (by decide +kernel) ⟨Nat.le_of_ble_eq_true rfl, Nat.le_of_ble_eq_true rfl⟩) (kW_S hP hK hD hN [] rfl rfl rfl) rfl rfl hl.1 rfl (lv_room (Nat.le_of_ble_eq_true rfl)) dX6_turned_9 ⟨Nat.zero_le _, Nat.zero_le _⟩) hP hS (fun H locs hP hS => ?_)
    refine kCall (va_runS (As := [.int (P_otherOf pair), .int (P_oneOf pair)]) (rest := []) ⟨hx, hb, hml, hown, hts⟩ (k_X6_pairOf l dC dI cI cN (P_otherOf pair) (P_oneOf pair)) (va_cwS 2 hts gX6_turned_X6_pairOf rfl rfl rfl (by decide +kernel) ⟨Nat.le_of_ble_eq_true rfl, Nat.le_of_ble_eq_true rfl⟩) (kW_S hP hK hD hN [] rfl rfl rfl) rfl rfl hl.1 rfl (lv_room (Nat.le_of_ble_eq_true rfl)) dX6_turned_12 ⟨Nat.zero_le _, Nat.zero_le _⟩) hP hS (fun H locs hP hS => ?_)
    refine lv_goto (tgt := 19) hx hb dX6_turned_15 (by decide) ?_
    have he := hr.trans hρ
    exact W.iret (v := P_pairOf (P_otherOf pair) (P_oneOf pair)) hx hb hr0 (fun t ht hW => kR_end he hS ht) hS.2.2 dX6_turned_19
def P_canExchange (f : Nat → Int32) (pair : Int32) (pairToo : Int32) : Int32 :=
  bd ((((P_bit (P_oneOf pair)) ||| (P_bit (P_otherOf pair))) ||| (P_bit (P_oneOf pairToo))) ||| (P_bit (P_otherOf pairToo))) (fun knots_1 =>
    if (P_bitCount knots_1) = (4 : Int32) then
      if (P_isNear f (P_oneOf pair) (P_oneOf pairToo)) = 0 then
        if (P_isNear f (P_otherOf pair) (P_otherOf pairToo)) = 0 then
          1
        else
          0
      else
        0
    else
      0)
abbrev rm_X6_canExchange : Room := { frames := 2, cells := 0, slots := 0, locals := 43 }
set_option maxHeartbeats 4000000 in
set_option maxRecDepth 100000 in
theorem k_X6_canExchange (l : Launch) (dC : Nat → ClassId) (dI : Nat → Nat → Nat) (cI cN : ClassId) (s0 : Nat) (sc0 : Nat) (kp0 : Nat) (ta0 : Nat) (km : Int32) (rf : Int32) (a0 : Nat) (q0 : Nat) (d0 : Nat) (c0 : Nat) (h0 : Nat) (h1 : Nat) (K : Nat) (f : Nat → Int32) (pair : Int32) (pairToo : Int32) (hK : K ≤ 16) : Met l yX6_canExchange wsX6_canExchange rm_X6_canExchange (va_Pc [.ref s0, .int pair, .int pairToo] (kW dC dI cI cN [(s0, .inr (5, [.ref h0, .ref sc0, .ref kp0, .ref a0, .ref q0, .ref d0, .ref c0, .ref ta0, .int km, .int rf])), (h0, .inr (3, [.ref h1, .int (nI K)])), (h1, .inl (cI, 16, .inl f))])) (kR (P_canExchange f pair pairToo)) 0 0 (fun _ => False) := by
  refine Met.ofW (cc := cX6_canExchange) (maxL := 4) (ret := (some .boolean)) (by decide) rfl ?_
  intro p e s m args below meth c s₁ B hml hv
  obtain ⟨rfl, hP, hK, hD, hN⟩ := hv
  have hx := B.exec
  have hb := B.bytes
  have hr0 := B.returns
  have hts := atoms_spec (ws := wsX6_canExchange) B.pre
  have hown : s.vm.findClass RX6 = some m.cls := findClass_of_methodNamed B.named
  have hlocks := B.notSynchronized
  have hS : va_S (fun _ => False) s.heap s.heap [] := va_S.rf
  have hl := lv_entry ([.ref s0, .int pair, .int pairToo]) (n := 4) (Nat.le_of_ble_eq_true rfl)
  rw [lg_entry_eq]
  generalize (lg_sl ([.ref s0, .int pair, .int pairToo]) ++ List.replicate (4 - (lg_sl ([.ref s0, .int pair, .int pairToo])).length) Slot.unset).toArray = ls at hl ⊢
  have hl : lv_has ls 4 [(0, .ref s0), (1, .int pair), (2, .int pairToo)] := hl
  obtain ⟨ρ, hρ⟩ : ∃ ρ : Int32, ρ = P_canExchange f pair pairToo := ⟨_, rfl⟩
  have hr : P_canExchange f pair pairToo = ρ := hρ.symm
  rewrite [P_canExchange] at hr
  refine lv_iload_n hx hb dX6_canExchange_0 rfl (lv_at hl 1 rfl) ?_
  refine kCall (va_runS (As := [.int pair]) (rest := []) ⟨hx, hb, hml, hown, hts⟩ (k_X6_oneOf l dC dI cI cN pair) (va_cwS 1 hts gX6_canExchange_X6_oneOf rfl rfl rfl (by decide +kernel) ⟨Nat.le_of_ble_eq_true rfl, Nat.le_of_ble_eq_true rfl⟩) (kW_S hP hK hD hN [] rfl rfl rfl) rfl rfl hl.1 rfl (lv_room (Nat.le_of_ble_eq_true rfl)) dX6_canExchange_1 ⟨Nat.zero_le _, Nat.zero_le _⟩) hP hS (fun H locs hP hS => ?_)
  refine kCall (va_runS (As := [.int (P_oneOf pair)]) (rest := []) ⟨hx, hb, hml, hown, hts⟩ (k_X6_bit l dC dI cI cN (P_oneOf pair)) (va_cwS 1 hts gX6_canExchange_X6_bit rfl rfl rfl (by decide +kernel) ⟨Nat.le_of_ble_eq_true rfl, Nat.le_of_ble_eq_true rfl⟩) (kW_S hP hK hD hN [] rfl rfl rfl) rfl rfl hl.1 rfl (lv_room (Nat.le_of_ble_eq_true rfl)) dX6_canExchange_4 ⟨Nat.zero_le _, Nat.zero_le _⟩) hP hS (fun H locs hP hS => ?_)
  refine lv_iload_n hx hb dX6_canExchange_7 rfl (lv_at hl 1 rfl) ?_
  refine kCall (va_runS (As := [.int pair]) (rest := [.int (P_bit (P_oneOf pair))]) ⟨hx, hb, hml, hown, hts⟩ (k_X6_otherOf l dC dI cI cN pair) (va_cwS 1 hts gX6_canExchange_X6_otherOf rfl rfl rfl (by decide +kernel) ⟨Nat.le_of_ble_eq_true rfl, Nat.le_of_ble_eq_true rfl⟩) (kW_S hP hK hD hN [] rfl rfl rfl) rfl rfl hl.1 rfl (lv_room (Nat.le_of_ble_eq_true rfl)) dX6_canExchange_8 ⟨Nat.zero_le _, Nat.zero_le _⟩) hP hS (fun H locs hP hS => ?_)
  refine kCall (va_runS (As := [.int (P_otherOf pair)]) (rest := [.int (P_bit (P_oneOf pair))]) ⟨hx, hb, hml, hown, hts⟩ (k_X6_bit l dC dI cI cN (P_otherOf pair)) (va_cwS 1 hts gX6_canExchange_X6_bit rfl rfl rfl (by decide +kernel) ⟨Nat.le_of_ble_eq_true rfl, Nat.le_of_ble_eq_true rfl⟩) (kW_S hP hK hD hN [] rfl rfl rfl) rfl rfl hl.1 rfl (lv_room (Nat.le_of_ble_eq_true rfl)) dX6_canExchange_11 ⟨Nat.zero_le _, Nat.zero_le _⟩) hP hS (fun H locs hP hS => ?_)
  refine lv_ior hx hb dX6_canExchange_14 ?_
  refine lv_iload_n hx hb dX6_canExchange_15 rfl (lv_at hl 2 rfl) ?_
  refine kCall (va_runS (As := [.int pairToo]) (rest := [.int ((P_bit (P_oneOf pair)) ||| (P_bit (P_otherOf pair)))]) ⟨hx, hb, hml, hown, hts⟩ (k_X6_oneOf l dC dI cI cN pairToo) (va_cwS 1 hts gX6_canExchange_X6_oneOf rfl rfl rfl (by decide +kernel) ⟨Nat.le_of_ble_eq_true rfl, Nat.le_of_ble_eq_true rfl⟩) (kW_S hP hK hD hN [] rfl rfl rfl) rfl rfl hl.1 rfl (lv_room (Nat.le_of_ble_eq_true rfl)) dX6_canExchange_16 ⟨Nat.zero_le _, Nat.zero_le _⟩) hP hS (fun H locs hP hS => ?_)
  refine kCall (va_runS (As := [.int (P_oneOf pairToo)]) (rest := [.int ((P_bit (P_oneOf pair)) ||| (P_bit (P_otherOf pair)))]) ⟨hx, hb, hml, hown, hts⟩ (k_X6_bit l dC dI cI cN (P_oneOf pairToo)) (va_cwS 1 hts gX6_canExchange_X6_bit rfl rfl rfl (by decide +kernel) ⟨Nat.le_of_ble_eq_true rfl, Nat.le_of_ble_eq_true rfl⟩) (kW_S hP hK hD hN [] rfl rfl rfl) rfl rfl hl.1 rfl (lv_room (Nat.le_of_ble_eq_true rfl)) dX6_canExchange_19 ⟨Nat.zero_le _, Nat.zero_le _⟩) hP hS (fun H locs hP hS => ?_)
  refine lv_ior hx hb dX6_canExchange_22 ?_
  refine lv_iload_n hx hb dX6_canExchange_23 rfl (lv_at hl 2 rfl) ?_
  refine kCall (va_runS (As := [.int pairToo]) (rest := [.int (((P_bit (P_oneOf pair)) ||| (P_bit (P_otherOf pair))) ||| (P_bit (P_oneOf pairToo)))]) ⟨hx, hb, hml, hown, hts⟩ (k_X6_otherOf l dC dI cI cN pairToo) (va_cwS 1 hts gX6_canExchange_X6_otherOf rfl rfl rfl (by decide +kernel) ⟨Nat.le_of_ble_eq_true rfl, Nat.le_of_ble_eq_true rfl⟩) (kW_S hP hK hD hN [] rfl rfl rfl) rfl rfl hl.1 rfl (lv_room (Nat.le_of_ble_eq_true rfl)) dX6_canExchange_24 ⟨Nat.zero_le _, Nat.zero_le _⟩) hP hS (fun H locs hP hS => ?_)
  refine kCall (va_runS (As := [.int (P_otherOf pairToo)]) (rest := [.int (((P_bit (P_oneOf pair)) ||| (P_bit (P_otherOf pair))) ||| (P_bit (P_oneOf pairToo)))]) ⟨hx, hb, hml, hown, hts⟩ (k_X6_bit l dC dI cI cN (P_otherOf pairToo)) (va_cwS 1 hts gX6_canExchange_X6_bit rfl rfl rfl (by decide +kernel) ⟨Nat.le_of_ble_eq_true rfl, Nat.le_of_ble_eq_true rfl⟩) (kW_S hP hK hD hN [] rfl rfl rfl) rfl rfl hl.1 rfl (lv_room (Nat.le_of_ble_eq_true rfl)) dX6_canExchange_27 ⟨Nat.zero_le _, Nat.zero_le _⟩) hP hS (fun H locs hP hS => ?_)
  refine lv_ior hx hb dX6_canExchange_30 ?_
  refine lv_topi (fun knots_1 eknots_1 => ?_)
  have hr := bd_to hr eknots_1
  refine lv_istore_n (lv' := [(3, .int knots_1), (0, .ref s0), (1, .int pair), (2, .int pairToo)]) hx hb dX6_canExchange_31 rfl hl (by decide) rfl (fun ls hl => ?_)
  refine lv_iload_n hx hb dX6_canExchange_32 rfl (lv_at hl 0 rfl) ?_
  refine kCall (va_runS (As := [.int knots_1]) (rest := []) ⟨hx, hb, hml, hown, hts⟩ (k_J6_bitCount_0f7a4 l dC dI cI cN knots_1) (va_cwS 1 hts gX6_canExchange_J6_bitCount_0f7a4 rfl rfl rfl (by decide +kernel) ⟨Nat.le_of_ble_eq_true rfl, Nat.le_of_ble_eq_true rfl⟩) (kW_S hP hK hD hN [] rfl rfl rfl) rfl rfl hl.1 rfl (lv_room (Nat.le_of_ble_eq_true rfl)) dX6_canExchange_33 ⟨Nat.zero_le _, Nat.zero_le _⟩) hP hS (fun H locs hP hS => ?_)
  refine lv_iconst (v := 4) hx hb dX6_canExchange_36 (by decide) ?_
  refine lv_icmp_ne (tgt := 80) hx hb dX6_canExchange_37 (by decide) (fun c_2 => ?_) (fun c_2 => ?_)
  · have hr := if_no hr c_2
    refine lv_iconst (v := 0) hx hb dX6_canExchange_80 (by decide) ?_
    have he := hr.trans hρ
    exact W.zret (v := 0) hx hb hr0 rfl (fun t ht hW => kR_end he hS ht) hS.2.2 dX6_canExchange_81
  · have hr := if_to hr c_2
    refine lv_aload_n hx hb dX6_canExchange_40 rfl (lv_at hl 1 rfl) ?_
    refine va_get (D := (dC, dI)) (ci := 5) (v := .ref h0) (C := RX6) (T := TX6) (N := 10) hx hb hts (by decide +kernel) hown hK hP 0 rfl rfl 0 (by decide) (hts (.fieldLink RX6 12 "Shortring" "net" "LShortring$Net;") (by decide +kernel)) (fun _ h9 => h9) rfl dX6_canExchange_41 ?_
    refine lv_iload_n hx hb dX6_canExchange_44 rfl (lv_at hl 2 rfl) ?_
    refine kCall (va_runS (As := [.int pair]) (rest := [.ref h0]) ⟨hx, hb, hml, hown, hts⟩ (k_X6_oneOf l dC dI cI cN pair) (va_cwS 1 hts gX6_canExchange_X6_oneOf rfl rfl rfl (by decide +kernel) ⟨Nat.le_of_ble_eq_true rfl, Nat.le_of_ble_eq_true rfl⟩) (kW_S hP hK hD hN [] rfl rfl rfl) rfl rfl hl.1 rfl (lv_room (Nat.le_of_ble_eq_true rfl)) dX6_canExchange_45 ⟨Nat.zero_le _, Nat.zero_le _⟩) hP hS (fun H locs hP hS => ?_)
    refine lv_iload_n hx hb dX6_canExchange_48 rfl (lv_at hl 3 rfl) ?_
    refine kCall (va_runS (As := [.int pairToo]) (rest := [.int (P_oneOf pair), .ref h0]) ⟨hx, hb, hml, hown, hts⟩ (k_X6_oneOf l dC dI cI cN pairToo) (va_cwS 1 hts gX6_canExchange_X6_oneOf rfl rfl rfl (by decide +kernel) ⟨Nat.le_of_ble_eq_true rfl, Nat.le_of_ble_eq_true rfl⟩) (kW_S hP hK hD hN [] rfl rfl rfl) rfl rfl hl.1 rfl (lv_room (Nat.le_of_ble_eq_true rfl)) dX6_canExchange_49 ⟨Nat.zero_le _, Nat.zero_le _⟩) hP hS (fun H locs hP hS => ?_)
    refine kCall (va_runVN (As := [.int (P_oneOf pair), .int (P_oneOf pairToo)]) (rest := []) ⟨hx, hb, hml, hown, hts⟩ (k_X3_isNear l dC dI cI cN h0 h1 K f (P_oneOf pair) (P_oneOf pairToo) (by first | assumption | omega | exact Int32.le_refl _ | decide)) ⟨va_cnB 2 hts gX6_canExchange_X3_isNear_n98 rfl rfl rfl (hN.1 9 _ rfl) (hts (.initialized RX3) (by decide +kernel)) (by decide +kernel) ⟨Nat.le_of_ble_eq_true rfl, Nat.le_of_ble_eq_true rfl⟩, hts (.instanceMethod yX3_isNear) (by decide +kernel), hts (.selects RX3 yX3_isNear yX3_isNear) (by decide +kernel)⟩ (kW_V hP hK hD hN (ci := 3) (q0 := 1) rfl rfl [1, 2] rfl rfl rfl) rfl rfl hl.1 rfl (lv_room (Nat.le_of_ble_eq_true rfl)) dX6_canExchange_52 ⟨Nat.zero_le _, Nat.zero_le _⟩) hP hS (fun H locs hP hS => ?_)
    refine lv_if_ne (tgt := 80) hx hb dX6_canExchange_55 (by decide) (fun c_3 => ?_) (fun c_3 => ?_)
    · have hr := if_no hr c_3
      refine lv_iconst (v := 0) hx hb dX6_canExchange_80 (by decide) ?_
      have he := hr.trans hρ
      exact W.zret (v := 0) hx hb hr0 rfl (fun t ht hW => kR_end he hS ht) hS.2.2 dX6_canExchange_81
    · have hr := if_to hr c_3
      refine lv_aload_n hx hb dX6_canExchange_58 rfl (lv_at hl 1 rfl) ?_
      refine va_get (D := (dC, dI)) (ci := 5) (v := .ref h0) (C := RX6) (T := TX6) (N := 10) hx hb hts (by decide +kernel) hown hK hP 0 rfl rfl 0 (by decide) (hts (.fieldLink RX6 12 "Shortring" "net" "LShortring$Net;") (by decide +kernel)) (fun _ h9 => h9) rfl dX6_canExchange_59 ?_
      refine lv_iload_n hx hb dX6_canExchange_62 rfl (lv_at hl 2 rfl) ?_
      refine kCall (va_runS (As := [.int pair]) (rest := [.ref h0]) ⟨hx, hb, hml, hown, hts⟩ (k_X6_otherOf l dC dI cI cN pair) (va_cwS 1 hts gX6_canExchange_X6_otherOf rfl rfl rfl (by decide +kernel) ⟨Nat.le_of_ble_eq_true rfl, Nat.le_of_ble_eq_true rfl⟩) (kW_S hP hK hD hN [] rfl rfl rfl) rfl rfl hl.1 rfl (lv_room (Nat.le_of_ble_eq_true rfl)) dX6_canExchange_63 ⟨Nat.zero_le _, Nat.zero_le _⟩) hP hS (fun H locs hP hS => ?_)
      refine lv_iload_n hx hb dX6_canExchange_66 rfl (lv_at hl 3 rfl) ?_
      refine kCall (va_runS (As := [.int pairToo]) (rest := [.int (P_otherOf pair), .ref h0]) ⟨hx, hb, hml, hown, hts⟩ (k_X6_otherOf l dC dI cI cN pairToo) (va_cwS 1 hts gX6_canExchange_X6_otherOf rfl rfl rfl (by decide +kernel) ⟨Nat.le_of_ble_eq_true rfl, Nat.le_of_ble_eq_true rfl⟩) (kW_S hP hK hD hN [] rfl rfl rfl) rfl rfl hl.1 rfl (lv_room (Nat.le_of_ble_eq_true rfl)) dX6_canExchange_67 ⟨Nat.zero_le _, Nat.zero_le _⟩) hP hS (fun H locs hP hS => ?_)
      refine kCall (va_runVN (As := [.int (P_otherOf pair), .int (P_otherOf pairToo)]) (rest := []) ⟨hx, hb, hml, hown, hts⟩ (k_X3_isNear l dC dI cI cN h0 h1 K f (P_otherOf pair) (P_otherOf pairToo) (by first | assumption | omega | exact Int32.le_refl _ | decide)) ⟨va_cnB 2 hts gX6_canExchange_X3_isNear_n98 rfl rfl rfl (hN.1 9 _ rfl) (hts (.initialized RX3) (by decide +kernel)) (by decide +kernel) ⟨Nat.le_of_ble_eq_true rfl, Nat.le_of_ble_eq_true rfl⟩, hts (.instanceMethod yX3_isNear) (by decide +kernel), hts (.selects RX3 yX3_isNear yX3_isNear) (by decide +kernel)⟩ (kW_V hP hK hD hN (ci := 3) (q0 := 1) rfl rfl [1, 2] rfl rfl rfl) rfl rfl hl.1 rfl (lv_room (Nat.le_of_ble_eq_true rfl)) dX6_canExchange_70 ⟨Nat.zero_le _, Nat.zero_le _⟩) hP hS (fun H locs hP hS => ?_)
      refine lv_if_ne (tgt := 80) hx hb dX6_canExchange_73 (by decide) (fun c_4 => ?_) (fun c_4 => ?_)
      · have hr := if_no hr c_4
        refine lv_iconst (v := 0) hx hb dX6_canExchange_80 (by decide) ?_
        have he := hr.trans hρ
        exact W.zret (v := 0) hx hb hr0 rfl (fun t ht hW => kR_end he hS ht) hS.2.2 dX6_canExchange_81
      · have hr := if_to hr c_4
        refine lv_iconst (v := 1) hx hb dX6_canExchange_76 (by decide) ?_
        refine lv_goto (tgt := 81) hx hb dX6_canExchange_77 (by decide) ?_
        have he := hr.trans hρ
        exact W.zret (v := 1) hx hb hr0 rfl (fun t ht hW => kR_end he hS ht) hS.2.2 dX6_canExchange_81
theorem P_canExchange_b (f : Nat → Int32) (pair pairToo : Int32) : P_canExchange f pair pairToo = 0 ∨ P_canExchange f pair pairToo = 1 := by
  unfold P_canExchange
  simp only [bd]
  repeat' split
  all_goals first | exact Or.inl rfl | exact Or.inr rfl
def P_exchange (K : Nat) (f : Nat → Int32) (pair : Int32) (pairToo : Int32) : Nat → Int32 :=
  bd (P_loosen K f (P_oneOf pair) (P_otherOf pair)) (fun r_1 =>
    bd (P_loosen K r_1 (P_oneOf pairToo) (P_otherOf pairToo)) (fun r_2 =>
      bd (P_join K r_2 (P_oneOf pair) (P_oneOf pairToo)) (fun r_3 =>
        bd (P_join K r_3 (P_otherOf pair) (P_otherOf pairToo)) (fun r_4 =>
          r_4))))
abbrev rm_X6_exchange : Room := { frames := 2, cells := 0, slots := 0, locals := 43 }
set_option maxHeartbeats 4000000 in
set_option maxRecDepth 100000 in
theorem k_X6_exchange (l : Launch) (dC : Nat → ClassId) (dI : Nat → Nat → Nat) (cI cN : ClassId) (s0 : Nat) (sc0 : Nat) (kp0 : Nat) (ta0 : Nat) (km : Int32) (rf : Int32) (a0 : Nat) (q0 : Nat) (d0 : Nat) (c0 : Nat) (h0 : Nat) (h1 : Nat) (K : Nat) (f : Nat → Int32) (pair : Int32) (pairToo : Int32) (hK : K ≤ 16) (sz : Nat) : Met l yX6_exchange wsX6_exchange rm_X6_exchange (va_Pc [.ref s0, .int pair, .int pairToo] (kU dC dI cI cN [(s0, .inr (5, [.ref h0, .ref sc0, .ref kp0, .ref a0, .ref q0, .ref d0, .ref c0, .ref ta0, .int km, .int rf])), (h0, .inr (3, [.ref h1, .int (nI K)])), (h1, .inl (cI, 16, .inl f))] sz)) (kV dC dI [(s0, .inr (5, [.ref h0, .ref sc0, .ref kp0, .ref a0, .ref q0, .ref d0, .ref c0, .ref ta0, .int km, .int rf])), (h0, .inr (3, [.ref h1, .int (nI K)])), (h1, .inl (cI, 16, .inl ((P_exchange K f pair pairToo))))] (va_A [(s0, .inr (5, [.ref h0, .ref sc0, .ref kp0, .ref a0, .ref q0, .ref d0, .ref c0, .ref ta0, .int km, .int rf])), (h0, .inr (3, [.ref h1, .int (nI K)])), (h1, .inl (cI, 16, .inl f))] sz)) 0 0 (va_A [(s0, .inr (5, [.ref h0, .ref sc0, .ref kp0, .ref a0, .ref q0, .ref d0, .ref c0, .ref ta0, .int km, .int rf])), (h0, .inr (3, [.ref h1, .int (nI K)])), (h1, .inl (cI, 16, .inl f))] sz) := by
  refine Met.ofW (cc := cX6_exchange) (maxL := 3) (ret := none) (by decide) rfl ?_
  intro p e s m args below meth c s₁ B hml hv
  obtain ⟨rfl, hsz, hP, hK, hD0, hN⟩ := hv
  have hx := B.exec
  have hb := B.bytes
  have hr0 := B.returns
  have hts := atoms_spec (ws := wsX6_exchange) B.pre
  have hown : s.vm.findClass RX6 = some m.cls := findClass_of_methodNamed B.named
  have hlocks := B.notSynchronized
  subst hsz
  have hD := hD0.self (sz := s.heap.size)
  generalize hAe : va_A [(s0, .inr (5, [.ref h0, .ref sc0, .ref kp0, .ref a0, .ref q0, .ref d0, .ref c0, .ref ta0, .int km, .int rf])), (h0, .inr (3, [.ref h1, .int (nI K)])), (h1, .inl (cI, 16, .inl f))] s.heap.size = A at hD ⊢
  have hA : ∀ q : Nat, s.heap.size ≤ q → A q := fun q h => by rw [← hAe]; exact Or.inr h
  have hS : va_S A s.heap s.heap [] := va_S.rf
  have hl := lv_entry ([.ref s0, .int pair, .int pairToo]) (n := 3) (Nat.le_of_ble_eq_true rfl)
  rw [lg_entry_eq]
  generalize (lg_sl ([.ref s0, .int pair, .int pairToo]) ++ List.replicate (3 - (lg_sl ([.ref s0, .int pair, .int pairToo])).length) Slot.unset).toArray = ls at hl ⊢
  have hl : lv_has ls 3 [(0, .ref s0), (1, .int pair), (2, .int pairToo)] := hl
  obtain ⟨ρ, hρ⟩ : ∃ ρ : Nat → Int32, ρ = P_exchange K f pair pairToo := ⟨_, rfl⟩
  have hr : P_exchange K f pair pairToo = ρ := hρ.symm
  rewrite [P_exchange] at hr
  refine lv_aload_n hx hb dX6_exchange_0 rfl (lv_at hl 0 rfl) ?_
  refine va_get (D := (dC, dI)) (ci := 5) (v := .ref h0) (C := RX6) (T := TX6) (N := 10) hx hb hts (by decide +kernel) hown hK hP 0 rfl rfl 0 (by decide) (hts (.fieldLink RX6 12 "Shortring" "net" "LShortring$Net;") (by decide +kernel)) (fun _ h9 => h9) rfl dX6_exchange_1 ?_
  refine lv_iload_n hx hb dX6_exchange_4 rfl (lv_at hl 1 rfl) ?_
  refine kCall (va_runS (As := [.int pair]) (rest := [.ref h0]) ⟨hx, hb, hml, hown, hts⟩ (k_X6_oneOf l dC dI cI cN pair) (va_cwS 1 hts gX6_exchange_X6_oneOf rfl rfl rfl (by decide +kernel) ⟨Nat.le_of_ble_eq_true rfl, Nat.le_of_ble_eq_true rfl⟩) (kW_S hP hK hD hN [] rfl rfl rfl) rfl rfl hl.1 rfl (lv_room (Nat.le_of_ble_eq_true rfl)) dX6_exchange_5 ⟨Nat.zero_le _, Nat.zero_le _⟩) hP hS (fun H locs hP hS => ?_)
  refine lv_iload_n hx hb dX6_exchange_8 rfl (lv_at hl 1 rfl) ?_
  refine kCall (va_runS (As := [.int pair]) (rest := [.int (P_oneOf pair), .ref h0]) ⟨hx, hb, hml, hown, hts⟩ (k_X6_otherOf l dC dI cI cN pair) (va_cwS 1 hts gX6_exchange_X6_otherOf rfl rfl rfl (by decide +kernel) ⟨Nat.le_of_ble_eq_true rfl, Nat.le_of_ble_eq_true rfl⟩) (kW_S hP hK hD hN [] rfl rfl rfl) rfl rfl hl.1 rfl (lv_room (Nat.le_of_ble_eq_true rfl)) dX6_exchange_9 ⟨Nat.zero_le _, Nat.zero_le _⟩) hP hS (fun H locs hP hS => ?_)
  refine kCallV (wr := [(s0, .inr (5, [.ref h0, .ref sc0, .ref kp0, .ref a0, .ref q0, .ref d0, .ref c0, .ref ta0, .int km, .int rf]))]) (va_runVN (As := [.int (P_oneOf pair), .int (P_otherOf pair)]) (rest := []) ⟨hx, hb, hml, hown, hts⟩ (k_X3_loosen l dC dI cI cN h0 h1 K f (P_oneOf pair) (P_otherOf pair) (by first | assumption | omega | exact Int32.le_refl _ | decide) _) ⟨va_cnB 2 hts gX6_exchange_X3_loosen_n115 rfl rfl rfl (hN.1 12 _ rfl) (hts (.initialized RX3) (by decide +kernel)) (by decide +kernel) ⟨Nat.le_of_ble_eq_true rfl, Nat.le_of_ble_eq_true rfl⟩, hts (.instanceMethod yX3_loosen) (by decide +kernel), hts (.selects RX3 yX3_loosen yX3_loosen) (by decide +kernel)⟩ (kU_V hP hK hD hN (ci := 3) (q0 := 1) rfl rfl [1, 2] rfl rfl rfl) rfl rfl hl.1 rfl (lv_room (Nat.le_of_ble_eq_true rfl)) dX6_exchange_12 ⟨Nat.zero_le _, Nat.zero_le _⟩) hP hD hS hA [1, 2] [0] rfl rfl rfl rfl (by decide) rfl (fun H locs hP hD hS => ?_)
  obtain ⟨r_1, er_1⟩ : ∃ y : Nat → Int32, y = (P_loosen K f (P_oneOf pair) (P_otherOf pair)) := ⟨_, rfl⟩
  try rw [← er_1] at hP hD
  have hr := bd_to hr er_1
  have hP : va_P (dC, dI) kCl [(s0, .inr (5, [.ref h0, .ref sc0, .ref kp0, .ref a0, .ref q0, .ref d0, .ref c0, .ref ta0, .int km, .int rf])), (h0, .inr (3, [.ref h1, .int (nI K)])), (h1, .inl (cI, 16, .inl r_1))] H := hP.sub [0, 1, 2] rfl
  have hD : va_D A [(s0, .inr (5, [.ref h0, .ref sc0, .ref kp0, .ref a0, .ref q0, .ref d0, .ref c0, .ref ta0, .int km, .int rf])), (h0, .inr (3, [.ref h1, .int (nI K)])), (h1, .inl (cI, 16, .inl r_1))] := hD.sub [0, 1, 2] (by decide) rfl
  refine lv_aload_n hx hb dX6_exchange_15 rfl (lv_at hl 0 rfl) ?_
  refine va_get (D := (dC, dI)) (ci := 5) (v := .ref h0) (C := RX6) (T := TX6) (N := 10) hx hb hts (by decide +kernel) hown hK hP 0 rfl rfl 0 (by decide) (hts (.fieldLink RX6 12 "Shortring" "net" "LShortring$Net;") (by decide +kernel)) (fun _ h9 => h9) rfl dX6_exchange_16 ?_
  refine lv_iload_n hx hb dX6_exchange_19 rfl (lv_at hl 2 rfl) ?_
  refine kCall (va_runS (As := [.int pairToo]) (rest := [.ref h0]) ⟨hx, hb, hml, hown, hts⟩ (k_X6_oneOf l dC dI cI cN pairToo) (va_cwS 1 hts gX6_exchange_X6_oneOf rfl rfl rfl (by decide +kernel) ⟨Nat.le_of_ble_eq_true rfl, Nat.le_of_ble_eq_true rfl⟩) (kW_S hP hK hD hN [] rfl rfl rfl) rfl rfl hl.1 rfl (lv_room (Nat.le_of_ble_eq_true rfl)) dX6_exchange_20 ⟨Nat.zero_le _, Nat.zero_le _⟩) hP hS (fun H locs hP hS => ?_)
  refine lv_iload_n hx hb dX6_exchange_23 rfl (lv_at hl 2 rfl) ?_
  refine kCall (va_runS (As := [.int pairToo]) (rest := [.int (P_oneOf pairToo), .ref h0]) ⟨hx, hb, hml, hown, hts⟩ (k_X6_otherOf l dC dI cI cN pairToo) (va_cwS 1 hts gX6_exchange_X6_otherOf rfl rfl rfl (by decide +kernel) ⟨Nat.le_of_ble_eq_true rfl, Nat.le_of_ble_eq_true rfl⟩) (kW_S hP hK hD hN [] rfl rfl rfl) rfl rfl hl.1 rfl (lv_room (Nat.le_of_ble_eq_true rfl)) dX6_exchange_24 ⟨Nat.zero_le _, Nat.zero_le _⟩) hP hS (fun H locs hP hS => ?_)
  refine kCallV (wr := [(s0, .inr (5, [.ref h0, .ref sc0, .ref kp0, .ref a0, .ref q0, .ref d0, .ref c0, .ref ta0, .int km, .int rf]))]) (va_runVN (As := [.int (P_oneOf pairToo), .int (P_otherOf pairToo)]) (rest := []) ⟨hx, hb, hml, hown, hts⟩ (k_X3_loosen l dC dI cI cN h0 h1 K r_1 (P_oneOf pairToo) (P_otherOf pairToo) (by first | assumption | omega | exact Int32.le_refl _ | decide) _) ⟨va_cnB 2 hts gX6_exchange_X3_loosen_n115 rfl rfl rfl (hN.1 12 _ rfl) (hts (.initialized RX3) (by decide +kernel)) (by decide +kernel) ⟨Nat.le_of_ble_eq_true rfl, Nat.le_of_ble_eq_true rfl⟩, hts (.instanceMethod yX3_loosen) (by decide +kernel), hts (.selects RX3 yX3_loosen yX3_loosen) (by decide +kernel)⟩ (kU_V hP hK hD hN (ci := 3) (q0 := 1) rfl rfl [1, 2] rfl rfl rfl) rfl rfl hl.1 rfl (lv_room (Nat.le_of_ble_eq_true rfl)) dX6_exchange_27 ⟨Nat.zero_le _, Nat.zero_le _⟩) hP hD hS hA [1, 2] [0] rfl rfl rfl rfl (by decide) rfl (fun H locs hP hD hS => ?_)
  obtain ⟨r_2, er_2⟩ : ∃ y : Nat → Int32, y = (P_loosen K r_1 (P_oneOf pairToo) (P_otherOf pairToo)) := ⟨_, rfl⟩
  try rw [← er_2] at hP hD
  have hr := bd_to hr er_2
  have hP : va_P (dC, dI) kCl [(s0, .inr (5, [.ref h0, .ref sc0, .ref kp0, .ref a0, .ref q0, .ref d0, .ref c0, .ref ta0, .int km, .int rf])), (h0, .inr (3, [.ref h1, .int (nI K)])), (h1, .inl (cI, 16, .inl r_2))] H := hP.sub [0, 1, 2] rfl
  have hD : va_D A [(s0, .inr (5, [.ref h0, .ref sc0, .ref kp0, .ref a0, .ref q0, .ref d0, .ref c0, .ref ta0, .int km, .int rf])), (h0, .inr (3, [.ref h1, .int (nI K)])), (h1, .inl (cI, 16, .inl r_2))] := hD.sub [0, 1, 2] (by decide) rfl
  refine lv_aload_n hx hb dX6_exchange_30 rfl (lv_at hl 0 rfl) ?_
  refine va_get (D := (dC, dI)) (ci := 5) (v := .ref h0) (C := RX6) (T := TX6) (N := 10) hx hb hts (by decide +kernel) hown hK hP 0 rfl rfl 0 (by decide) (hts (.fieldLink RX6 12 "Shortring" "net" "LShortring$Net;") (by decide +kernel)) (fun _ h9 => h9) rfl dX6_exchange_31 ?_
  refine lv_iload_n hx hb dX6_exchange_34 rfl (lv_at hl 1 rfl) ?_
  refine kCall (va_runS (As := [.int pair]) (rest := [.ref h0]) ⟨hx, hb, hml, hown, hts⟩ (k_X6_oneOf l dC dI cI cN pair) (va_cwS 1 hts gX6_exchange_X6_oneOf rfl rfl rfl (by decide +kernel) ⟨Nat.le_of_ble_eq_true rfl, Nat.le_of_ble_eq_true rfl⟩) (kW_S hP hK hD hN [] rfl rfl rfl) rfl rfl hl.1 rfl (lv_room (Nat.le_of_ble_eq_true rfl)) dX6_exchange_35 ⟨Nat.zero_le _, Nat.zero_le _⟩) hP hS (fun H locs hP hS => ?_)
  refine lv_iload_n hx hb dX6_exchange_38 rfl (lv_at hl 2 rfl) ?_
  refine kCall (va_runS (As := [.int pairToo]) (rest := [.int (P_oneOf pair), .ref h0]) ⟨hx, hb, hml, hown, hts⟩ (k_X6_oneOf l dC dI cI cN pairToo) (va_cwS 1 hts gX6_exchange_X6_oneOf rfl rfl rfl (by decide +kernel) ⟨Nat.le_of_ble_eq_true rfl, Nat.le_of_ble_eq_true rfl⟩) (kW_S hP hK hD hN [] rfl rfl rfl) rfl rfl hl.1 rfl (lv_room (Nat.le_of_ble_eq_true rfl)) dX6_exchange_39 ⟨Nat.zero_le _, Nat.zero_le _⟩) hP hS (fun H locs hP hS => ?_)
  refine kCallV (wr := [(s0, .inr (5, [.ref h0, .ref sc0, .ref kp0, .ref a0, .ref q0, .ref d0, .ref c0, .ref ta0, .int km, .int rf]))]) (va_runVN (As := [.int (P_oneOf pair), .int (P_oneOf pairToo)]) (rest := []) ⟨hx, hb, hml, hown, hts⟩ (k_X3_join l dC dI cI cN h0 h1 K r_2 (P_oneOf pair) (P_oneOf pairToo) (by first | assumption | omega | exact Int32.le_refl _ | decide) _) ⟨va_cnB 2 hts gX6_exchange_X3_join_n111 rfl rfl rfl (hN.1 11 _ rfl) (hts (.initialized RX3) (by decide +kernel)) (by decide +kernel) ⟨Nat.le_of_ble_eq_true rfl, Nat.le_of_ble_eq_true rfl⟩, hts (.instanceMethod yX3_join) (by decide +kernel), hts (.selects RX3 yX3_join yX3_join) (by decide +kernel)⟩ (kU_V hP hK hD hN (ci := 3) (q0 := 1) rfl rfl [1, 2] rfl rfl rfl) rfl rfl hl.1 rfl (lv_room (Nat.le_of_ble_eq_true rfl)) dX6_exchange_42 ⟨Nat.zero_le _, Nat.zero_le _⟩) hP hD hS hA [1, 2] [0] rfl rfl rfl rfl (by decide) rfl (fun H locs hP hD hS => ?_)
  obtain ⟨r_3, er_3⟩ : ∃ y : Nat → Int32, y = (P_join K r_2 (P_oneOf pair) (P_oneOf pairToo)) := ⟨_, rfl⟩
  try rw [← er_3] at hP hD
  have hr := bd_to hr er_3
  have hP : va_P (dC, dI) kCl [(s0, .inr (5, [.ref h0, .ref sc0, .ref kp0, .ref a0, .ref q0, .ref d0, .ref c0, .ref ta0, .int km, .int rf])), (h0, .inr (3, [.ref h1, .int (nI K)])), (h1, .inl (cI, 16, .inl r_3))] H := hP.sub [0, 1, 2] rfl
  have hD : va_D A [(s0, .inr (5, [.ref h0, .ref sc0, .ref kp0, .ref a0, .ref q0, .ref d0, .ref c0, .ref ta0, .int km, .int rf])), (h0, .inr (3, [.ref h1, .int (nI K)])), (h1, .inl (cI, 16, .inl r_3))] := hD.sub [0, 1, 2] (by decide) rfl
  refine lv_aload_n hx hb dX6_exchange_45 rfl (lv_at hl 0 rfl) ?_
  refine va_get (D := (dC, dI)) (ci := 5) (v := .ref h0) (C := RX6) (T := TX6) (N := 10) hx hb hts (by decide +kernel) hown hK hP 0 rfl rfl 0 (by decide) (hts (.fieldLink RX6 12 "Shortring" "net" "LShortring$Net;") (by decide +kernel)) (fun _ h9 => h9) rfl dX6_exchange_46 ?_
  refine lv_iload_n hx hb dX6_exchange_49 rfl (lv_at hl 1 rfl) ?_
  refine kCall (va_runS (As := [.int pair]) (rest := [.ref h0]) ⟨hx, hb, hml, hown, hts⟩ (k_X6_otherOf l dC dI cI cN pair) (va_cwS 1 hts gX6_exchange_X6_otherOf rfl rfl rfl (by decide +kernel) ⟨Nat.le_of_ble_eq_true rfl, Nat.le_of_ble_eq_true rfl⟩) (kW_S hP hK hD hN [] rfl rfl rfl) rfl rfl hl.1 rfl (lv_room (Nat.le_of_ble_eq_true rfl)) dX6_exchange_50 ⟨Nat.zero_le _, Nat.zero_le _⟩) hP hS (fun H locs hP hS => ?_)
  refine lv_iload_n hx hb dX6_exchange_53 rfl (lv_at hl 2 rfl) ?_
  refine kCall (va_runS (As := [.int pairToo]) (rest := [.int (P_otherOf pair), .ref h0]) ⟨hx, hb, hml, hown, hts⟩ (k_X6_otherOf l dC dI cI cN pairToo) (va_cwS 1 hts gX6_exchange_X6_otherOf rfl rfl rfl (by decide +kernel) ⟨Nat.le_of_ble_eq_true rfl, Nat.le_of_ble_eq_true rfl⟩) (kW_S hP hK hD hN [] rfl rfl rfl) rfl rfl hl.1 rfl (lv_room (Nat.le_of_ble_eq_true rfl)) dX6_exchange_54 ⟨Nat.zero_le _, Nat.zero_le _⟩) hP hS (fun H locs hP hS => ?_)
  refine kCallV (wr := [(s0, .inr (5, [.ref h0, .ref sc0, .ref kp0, .ref a0, .ref q0, .ref d0, .ref c0, .ref ta0, .int km, .int rf]))]) (va_runVN (As := [.int (P_otherOf pair), .int (P_otherOf pairToo)]) (rest := []) ⟨hx, hb, hml, hown, hts⟩ (k_X3_join l dC dI cI cN h0 h1 K r_3 (P_otherOf pair) (P_otherOf pairToo) (by first | assumption | omega | exact Int32.le_refl _ | decide) _) ⟨va_cnB 2 hts gX6_exchange_X3_join_n111 rfl rfl rfl (hN.1 11 _ rfl) (hts (.initialized RX3) (by decide +kernel)) (by decide +kernel) ⟨Nat.le_of_ble_eq_true rfl, Nat.le_of_ble_eq_true rfl⟩, hts (.instanceMethod yX3_join) (by decide +kernel), hts (.selects RX3 yX3_join yX3_join) (by decide +kernel)⟩ (kU_V hP hK hD hN (ci := 3) (q0 := 1) rfl rfl [1, 2] rfl rfl rfl) rfl rfl hl.1 rfl (lv_room (Nat.le_of_ble_eq_true rfl)) dX6_exchange_57 ⟨Nat.zero_le _, Nat.zero_le _⟩) hP hD hS hA [1, 2] [0] rfl rfl rfl rfl (by decide) rfl (fun H locs hP hD hS => ?_)
  obtain ⟨r_4, er_4⟩ : ∃ y : Nat → Int32, y = (P_join K r_3 (P_otherOf pair) (P_otherOf pairToo)) := ⟨_, rfl⟩
  try rw [← er_4] at hP hD
  have hr := bd_to hr er_4
  have hP : va_P (dC, dI) kCl [(s0, .inr (5, [.ref h0, .ref sc0, .ref kp0, .ref a0, .ref q0, .ref d0, .ref c0, .ref ta0, .int km, .int rf])), (h0, .inr (3, [.ref h1, .int (nI K)])), (h1, .inl (cI, 16, .inl r_4))] H := hP.sub [0, 1, 2] rfl
  have hD : va_D A [(s0, .inr (5, [.ref h0, .ref sc0, .ref kp0, .ref a0, .ref q0, .ref d0, .ref c0, .ref ta0, .int km, .int rf])), (h0, .inr (3, [.ref h1, .int (nI K)])), (h1, .inl (cI, 16, .inl r_4))] := hD.sub [0, 1, 2] (by decide) rfl
  have he := hr.trans hρ
  exact W.vret hx hb hr0 (fun t ht hW => kV_end (by rw [← he]; exact hP) hS ht) hS.2.2 dX6_exchange_60
def P_isEvenSound (K : Nat) (f : Nat → Int32) (g : Nat → Int32) : Int32 :=
  bd (P_evenCount K f) (fun count_1 =>
    bd (P_leastRing K f) (fun least_2 =>
      if (P_isWithin count_1 2 5) = 0 then
        1
      else
        if (P_isWithin least_2 3 8) = 0 then
          1
        else
          if (P_why g (nI K) count_1 least_2) = 0 then
            1
          else
            0))
abbrev rm_X6_isEvenSound : Room := { frames := 5, cells := 0, slots := 0, locals := 116 }
set_option maxHeartbeats 4000000 in
set_option maxRecDepth 100000 in
theorem k_X6_isEvenSound (l : Launch) (dC : Nat → ClassId) (dI : Nat → Nat → Nat) (cI cN : ClassId) (s0 : Nat) (sc0 : Nat) (kp0 : Nat) (ta0 : Nat) (km : Int32) (rf : Int32) (a0 : Nat) (d0 : Nat) (c0 : Nat) (h0 : Nat) (h1 : Nat) (K : Nat) (f : Nat → Int32) (q0 : Nat) (q1 : Nat) (q2 : Nat) (g : Nat → Int32) (t : Nat → Int32) (hK : K ≤ 16) : Met l yX6_isEvenSound wsX6_isEvenSound rm_X6_isEvenSound (va_Pc [.ref s0] (kW dC dI cI cN [(s0, .inr (5, [.ref h0, .ref sc0, .ref kp0, .ref a0, .ref q0, .ref d0, .ref c0, .ref ta0, .int km, .int rf])), (h0, .inr (3, [.ref h1, .int (nI K)])), (h1, .inl (cI, 16, .inl f)), (q0, .inr (1, [.ref q1, .ref q2])), (q1, .inl (cI, 102, .inl g)), (q2, .inl (cI, 54, .inl t))])) (kR (P_isEvenSound K f g)) 0 0 (fun _ => False) := by
  refine Met.ofW (cc := cX6_isEvenSound) (maxL := 3) (ret := (some .boolean)) (by decide) rfl ?_
  intro p e s m args below meth c s₁ B hml hv
  obtain ⟨rfl, hP, hK, hD, hN⟩ := hv
  have hx := B.exec
  have hb := B.bytes
  have hr0 := B.returns
  have hts := atoms_spec (ws := wsX6_isEvenSound) B.pre
  have hown : s.vm.findClass RX6 = some m.cls := findClass_of_methodNamed B.named
  have hlocks := B.notSynchronized
  have hS : va_S (fun _ => False) s.heap s.heap [] := va_S.rf
  have hl := lv_entry ([.ref s0]) (n := 3) (Nat.le_of_ble_eq_true rfl)
  rw [lg_entry_eq]
  generalize (lg_sl ([.ref s0]) ++ List.replicate (3 - (lg_sl ([.ref s0])).length) Slot.unset).toArray = ls at hl ⊢
  have hl : lv_has ls 3 [(0, .ref s0)] := hl
  obtain ⟨ρ, hρ⟩ : ∃ ρ : Int32, ρ = P_isEvenSound K f g := ⟨_, rfl⟩
  have hr : P_isEvenSound K f g = ρ := hρ.symm
  rewrite [P_isEvenSound] at hr
  refine lv_aload_n hx hb dX6_isEvenSound_0 rfl (lv_at hl 0 rfl) ?_
  refine va_get (D := (dC, dI)) (ci := 5) (v := .ref h0) (C := RX6) (T := TX6) (N := 10) hx hb hts (by decide +kernel) hown hK hP 0 rfl rfl 0 (by decide) (hts (.fieldLink RX6 12 "Shortring" "net" "LShortring$Net;") (by decide +kernel)) (fun _ h9 => h9) rfl dX6_isEvenSound_1 ?_
  refine kCall (va_runVN (As := []) (rest := []) ⟨hx, hb, hml, hown, hts⟩ (k_X3_evenCount l dC dI cI cN h0 h1 K f (by first | assumption | omega | exact Int32.le_refl _ | decide)) ⟨va_cnB 0 hts gX6_isEvenSound_X3_evenCount_n238 rfl rfl rfl (hN.1 24 _ rfl) (hts (.initialized RX3) (by decide +kernel)) (by decide +kernel) ⟨Nat.le_of_ble_eq_true rfl, Nat.le_of_ble_eq_true rfl⟩, hts (.instanceMethod yX3_evenCount) (by decide +kernel), hts (.selects RX3 yX3_evenCount yX3_evenCount) (by decide +kernel)⟩ (kW_V hP hK hD hN (ci := 3) (q0 := 1) rfl rfl [1, 2] rfl rfl rfl) rfl rfl hl.1 rfl (lv_room (Nat.le_of_ble_eq_true rfl)) dX6_isEvenSound_4 ⟨Nat.zero_le _, Nat.zero_le _⟩) hP hS (fun H locs hP hS => ?_)
  refine lv_topi (fun count_1 ecount_1 => ?_)
  have hr := bd_to hr ecount_1
  refine lv_istore_n (lv' := [(1, .int count_1), (0, .ref s0)]) hx hb dX6_isEvenSound_7 rfl hl (by decide) rfl (fun ls hl => ?_)
  refine lv_aload_n hx hb dX6_isEvenSound_8 rfl (lv_at hl 1 rfl) ?_
  refine va_get (D := (dC, dI)) (ci := 5) (v := .ref h0) (C := RX6) (T := TX6) (N := 10) hx hb hts (by decide +kernel) hown hK hP 0 rfl rfl 0 (by decide) (hts (.fieldLink RX6 12 "Shortring" "net" "LShortring$Net;") (by decide +kernel)) (fun _ h9 => h9) rfl dX6_isEvenSound_9 ?_
  refine kCall (va_runSN (As := [.ref h0]) (rest := []) ⟨hx, hb, hml, hown, hts⟩ (k_X5_leastRing l dC dI cI cN h0 h1 K f (by first | assumption | omega | exact Int32.le_refl _ | decide)) ⟨va_cnB 1 hts gX6_isEvenSound_X5_leastRing_n147 rfl rfl rfl (hN.1 15 _ rfl) (hts (.initialized RX5) (by decide +kernel)) (by decide +kernel) ⟨Nat.le_of_ble_eq_true rfl, Nat.le_of_ble_eq_true rfl⟩, hts (.static yX5_leastRing) (by decide +kernel), trivial⟩ (kW_S hP hK hD hN [1, 2] rfl rfl rfl) rfl rfl hl.1 rfl (lv_room (Nat.le_of_ble_eq_true rfl)) dX6_isEvenSound_12 ⟨Nat.zero_le _, Nat.zero_le _⟩) hP hS (fun H locs hP hS => ?_)
  refine lv_topi (fun least_2 eleast_2 => ?_)
  have hr := bd_to hr eleast_2
  refine lv_istore_n (lv' := [(2, .int least_2), (1, .int count_1), (0, .ref s0)]) hx hb dX6_isEvenSound_15 rfl hl (by decide) rfl (fun ls hl => ?_)
  refine lv_iload_n hx hb dX6_isEvenSound_16 rfl (lv_at hl 1 rfl) ?_
  refine lv_iconst (v := 2) hx hb dX6_isEvenSound_17 (by decide) ?_
  refine lv_iconst (v := 5) hx hb dX6_isEvenSound_18 (by decide) ?_
  refine kCall (va_runS (As := [.int count_1, .int 2, .int 5]) (rest := []) ⟨hx, hb, hml, hown, hts⟩ (k_X6_isWithin l dC dI cI cN count_1 2 5) (va_cwS 3 hts gX6_isEvenSound_X6_isWithin rfl rfl rfl (by decide +kernel) ⟨Nat.le_of_ble_eq_true rfl, Nat.le_of_ble_eq_true rfl⟩) (kW_S hP hK hD hN [] rfl rfl rfl) rfl rfl hl.1 rfl (lv_room (Nat.le_of_ble_eq_true rfl)) dX6_isEvenSound_19 ⟨Nat.zero_le _, Nat.zero_le _⟩) hP hS (fun H locs hP hS => ?_)
  refine lv_if_eq (tgt := 35) hx hb dX6_isEvenSound_22 (by decide) (fun c_3 => ?_) (fun c_3 => ?_)
  · have hr := if_to hr c_3
    refine lv_iconst (v := 1) hx hb dX6_isEvenSound_35 (by decide) ?_
    have he := hr.trans hρ
    exact W.zret (v := 1) hx hb hr0 rfl (fun t ht hW => kR_end he hS ht) hS.2.2 dX6_isEvenSound_36
  · have hr := if_no hr c_3
    refine lv_iload_n hx hb dX6_isEvenSound_25 rfl (lv_at hl 0 rfl) ?_
    refine lv_iconst (v := 3) hx hb dX6_isEvenSound_26 (by decide) ?_
    refine lv_bipush (v := 8) hx hb dX6_isEvenSound_27 (by decide) ?_
    refine kCall (va_runS (As := [.int least_2, .int 3, .int 8]) (rest := []) ⟨hx, hb, hml, hown, hts⟩ (k_X6_isWithin l dC dI cI cN least_2 3 8) (va_cwS 3 hts gX6_isEvenSound_X6_isWithin rfl rfl rfl (by decide +kernel) ⟨Nat.le_of_ble_eq_true rfl, Nat.le_of_ble_eq_true rfl⟩) (kW_S hP hK hD hN [] rfl rfl rfl) rfl rfl hl.1 rfl (lv_room (Nat.le_of_ble_eq_true rfl)) dX6_isEvenSound_29 ⟨Nat.zero_le _, Nat.zero_le _⟩) hP hS (fun H locs hP hS => ?_)
    refine lv_if_ne (tgt := 37) hx hb dX6_isEvenSound_32 (by decide) (fun c_4 => ?_) (fun c_4 => ?_)
    · have hr := if_no hr c_4
      refine lv_aload_n hx hb dX6_isEvenSound_37 rfl (lv_at hl 2 rfl) ?_
      refine va_get (D := (dC, dI)) (ci := 5) (v := .ref q0) (C := RX6) (T := TX6) (N := 10) hx hb hts (by decide +kernel) hown hK hP 0 rfl rfl 4 (by decide) (hts (.fieldLink RX6 33 "Shortring" "ledger" "LShortring$Ledger;") (by decide +kernel)) (fun _ h9 => h9) rfl dX6_isEvenSound_38 ?_
      refine lv_aload_n hx hb dX6_isEvenSound_41 rfl (lv_at hl 2 rfl) ?_
      refine va_get (D := (dC, dI)) (ci := 5) (v := .ref h0) (C := RX6) (T := TX6) (N := 10) hx hb hts (by decide +kernel) hown hK hP 0 rfl rfl 0 (by decide) (hts (.fieldLink RX6 12 "Shortring" "net" "LShortring$Net;") (by decide +kernel)) (fun _ h9 => h9) rfl dX6_isEvenSound_42 ?_
      refine va_getN (D := (dC, dI)) (ci := 3) (v := .int (nI K)) (C := RX3) (T := TX3) (N := 2) hx hb hts (by decide +kernel) hown hK hP 1 rfl rfl 1 (by decide) (va_Nw.use rfl (hN.2 0 _ rfl)) (fun _ h9 => h9) rfl dX6_isEvenSound_45 ?_
      refine lv_iload_n hx hb dX6_isEvenSound_48 rfl (lv_at hl 1 rfl) ?_
      refine lv_iload_n hx hb dX6_isEvenSound_49 rfl (lv_at hl 0 rfl) ?_
      refine kCall (va_runVN (As := [.int (nI K), .int count_1, .int least_2]) (rest := []) ⟨hx, hb, hml, hown, hts⟩ (k_X1_why l dC dI cI cN q0 q1 q2 g t (nI K) count_1 least_2) ⟨va_cnB 3 hts gX6_isEvenSound_X1_why_n188 rfl rfl rfl (hN.1 18 _ rfl) (hts (.initialized RX1) (by decide +kernel)) (by decide +kernel) ⟨Nat.le_of_ble_eq_true rfl, Nat.le_of_ble_eq_true rfl⟩, hts (.instanceMethod yX1_why) (by decide +kernel), hts (.selects RX1 yX1_why yX1_why) (by decide +kernel)⟩ (kW_V hP hK hD hN (ci := 1) (q0 := 3) rfl rfl [3, 4, 5] rfl rfl rfl) rfl rfl hl.1 rfl (lv_room (Nat.le_of_ble_eq_true rfl)) dX6_isEvenSound_50 ⟨Nat.zero_le _, Nat.zero_le _⟩) hP hS (fun H locs hP hS => ?_)
      refine lv_if_ne (tgt := 60) hx hb dX6_isEvenSound_53 (by decide) (fun c_5 => ?_) (fun c_5 => ?_)
      · have hr := if_no hr c_5
        refine lv_iconst (v := 0) hx hb dX6_isEvenSound_60 (by decide) ?_
        have he := hr.trans hρ
        exact W.zret (v := 0) hx hb hr0 rfl (fun t ht hW => kR_end he hS ht) hS.2.2 dX6_isEvenSound_61
      · have hr := if_to hr c_5
        refine lv_iconst (v := 1) hx hb dX6_isEvenSound_56 (by decide) ?_
        refine lv_goto (tgt := 61) hx hb dX6_isEvenSound_57 (by decide) ?_
        have he := hr.trans hρ
        exact W.zret (v := 1) hx hb hr0 rfl (fun t ht hW => kR_end he hS ht) hS.2.2 dX6_isEvenSound_61
    · have hr := if_to hr c_4
      refine lv_iconst (v := 1) hx hb dX6_isEvenSound_35 (by decide) ?_
      have he := hr.trans hρ
      exact W.zret (v := 1) hx hb hr0 rfl (fun t ht hW => kR_end he hS ht) hS.2.2 dX6_isEvenSound_36
theorem P_isEvenSound_b (K : Nat) (f g : Nat → Int32) : P_isEvenSound K f g = 0 ∨ P_isEvenSound K f g = 1 := by
  unfold P_isEvenSound
  simp only [bd]
  repeat' split
  all_goals first | exact Or.inl rfl | exact Or.inr rfl
def L_isAimSound_14 (K : Nat) (f : Nat → Int32) (isOn : Int32) (cnt : Int32) (len : Int32) (k : Int32) : Nat → Nat → Int32
  | 0, knot => k
  | n + 1, knot =>
    if (P_countOf f (nI knot)) ≤ cnt then
      L_isAimSound_14 K f isOn cnt len k n (knot + 1)
    else
      0
def P_isAimSound (K : Nat) (f : Nat → Int32) (isOn : Int32) (cnt : Int32) (len : Int32) : Int32 :=
  if isOn = 0 then
    1
  else
    L_isAimSound_14 K f isOn cnt len (bd (P_leastRing K f) (fun least_2 => if least_2 = (-1 : Int32) then 1 else if least_2 < len then 0 else 1)) K 0
abbrev rm_X6_isAimSound : Room := { frames := 5, cells := 0, slots := 0, locals := 116 }
set_option maxHeartbeats 4000000 in
set_option maxRecDepth 100000 in
theorem k_X6_isAimSound (l : Launch) (dC : Nat → ClassId) (dI : Nat → Nat → Nat) (cI cN : ClassId) (s0 : Nat) (sc0 : Nat) (kp0 : Nat) (ta0 : Nat) (km : Int32) (rf : Int32) (q0 : Nat) (d0 : Nat) (c0 : Nat) (h0 : Nat) (h1 : Nat) (K : Nat) (f : Nat → Int32) (a0 : Nat) (a1 : Nat) (a2 : Nat) (a3 : Nat) (a4 : Nat) (isOn : Int32) (cnt : Int32) (len : Int32) (stp : Int32) (sta : Int32) (pm : Int32) (bm : Int32) (bw : Nat → Int32) (bars : Nat → Int32) (puts : Nat → Int32) (bap : Nat → Int32) (hK : K ≤ 16) : Met l yX6_isAimSound wsX6_isAimSound rm_X6_isAimSound (va_Pc [.ref s0] (kW dC dI cI cN [(s0, .inr (5, [.ref h0, .ref sc0, .ref kp0, .ref a0, .ref q0, .ref d0, .ref c0, .ref ta0, .int km, .int rf])), (h0, .inr (3, [.ref h1, .int (nI K)])), (h1, .inl (cI, 16, .inl f)), (a0, .inr (0, [.ref a1, .ref a2, .ref a3, .ref a4, .int isOn, .int cnt, .int len, .int stp, .int sta, .int pm, .int bm])), (a1, .inl (cI, 16, .inl bw)), (a2, .inl (cI, 120, .inl bars)), (a3, .inl (cI, 40, .inl puts)), (a4, .inl (cI, 40, .inl bap))])) (kR (P_isAimSound K f isOn cnt len)) 0 0 (fun _ => False) := by
  refine Met.ofW (cc := cX6_isAimSound) (maxL := 2) (ret := (some .boolean)) (by decide) rfl ?_
  intro p e s m args below meth c s₁ B hml hv
  obtain ⟨rfl, hP, hK, hD, hN⟩ := hv
  have hx := B.exec
  have hb := B.bytes
  have hr0 := B.returns
  have hts := atoms_spec (ws := wsX6_isAimSound) B.pre
  have hown : s.vm.findClass RX6 = some m.cls := findClass_of_methodNamed B.named
  have hlocks := B.notSynchronized
  have hS : va_S (fun _ => False) s.heap s.heap [] := va_S.rf
  have hl := lv_entry ([.ref s0]) (n := 2) (Nat.le_of_ble_eq_true rfl)
  rw [lg_entry_eq]
  generalize (lg_sl ([.ref s0]) ++ List.replicate (2 - (lg_sl ([.ref s0])).length) Slot.unset).toArray = ls at hl ⊢
  have hl : lv_has ls 2 [(0, .ref s0)] := hl
  obtain ⟨ρ, hρ⟩ : ∃ ρ : Int32, ρ = P_isAimSound K f isOn cnt len := ⟨_, rfl⟩
  have hr : P_isAimSound K f isOn cnt len = ρ := hρ.symm
  rewrite [P_isAimSound] at hr
  refine lv_aload_n hx hb dX6_isAimSound_0 rfl (lv_at hl 0 rfl) ?_
  refine va_get (D := (dC, dI)) (ci := 5) (v := .ref a0) (C := RX6) (T := TX6) (N := 10) hx hb hts (by decide +kernel) hown hK hP 0 rfl rfl 3 (by decide) (hts (.fieldLink RX6 26 "Shortring" "hunt" "LShortring$Hunt;") (by decide +kernel)) (fun _ h9 => h9) rfl dX6_isAimSound_1 ?_
  refine va_getN (D := (dC, dI)) (ci := 0) (v := .int isOn) (C := RX0) (T := TX0) (N := 11) hx hb hts (by decide +kernel) hown hK hP 3 rfl rfl 4 (by decide) (va_Nw.use rfl (hN.2 1 _ rfl)) (fun _ h9 => h9) rfl dX6_isAimSound_4 ?_
  refine lv_if_ne (tgt := 12) hx hb dX6_isAimSound_7 (by decide) (fun c_1 => ?_) (fun c_1 => ?_)
  · have hr := if_no hr c_1
    refine lv_iconst (v := 0) hx hb dX6_isAimSound_12 (by decide) ?_
    refine lv_istore_n (lv' := [(1, .int 0), (0, .ref s0)]) hx hb dX6_isAimSound_13 rfl hl (by decide) rfl (fun ls hl => ?_)
    have ex_14 : ∀  (H : Heap) (locs : List Loc) (ls : Array Slot), (bd (P_leastRing K f) (fun least_2 => if least_2 = (-1 : Int32) then 1 else if least_2 < len then 0 else 1)) = ρ → va_P (dC, dI) kCl [(s0, .inr (5, [.ref h0, .ref sc0, .ref kp0, .ref a0, .ref q0, .ref d0, .ref c0, .ref ta0, .int km, .int rf])), (h0, .inr (3, [.ref h1, .int (nI K)])), (h1, .inl (cI, 16, .inl f)), (a0, .inr (0, [.ref a1, .ref a2, .ref a3, .ref a4, .int isOn, .int cnt, .int len, .int stp, .int sta, .int pm, .int bm])), (a1, .inl (cI, 16, .inl bw)), (a2, .inl (cI, 120, .inl bars)), (a3, .inl (cI, 40, .inl puts)), (a4, .inl (cI, 40, .inl bap))] H → va_S (fun _ => False) s.heap H locs → lv_has ls 2 [(0, .ref s0)] → W p l e (headSpec wsX6_isAimSound rm_X6_isAimSound).room s m (([.ref s0] : List Value).toArray) below meth c H locs 0 0 (MQ below (kR (P_isAimSound K f isOn cnt len)) (([.ref s0] : List Value).toArray) s 0 0 (fun _ => False)) (F0 m 51 ls []) := by
      intro  H locs ls hr hP hS hl
      refine lv_aload_n hx hb dX6_isAimSound_51 rfl (lv_at hl 0 rfl) ?_
      refine va_get (D := (dC, dI)) (ci := 5) (v := .ref h0) (C := RX6) (T := TX6) (N := 10) hx hb hts (by decide +kernel) hown hK hP 0 rfl rfl 0 (by decide) (hts (.fieldLink RX6 12 "Shortring" "net" "LShortring$Net;") (by decide +kernel)) (fun _ h9 => h9) rfl dX6_isAimSound_52 ?_
      refine kCall (va_runSN (As := [.ref h0]) (rest := []) ⟨hx, hb, hml, hown, hts⟩ (k_X5_leastRing l dC dI cI cN h0 h1 K f (by first | assumption | omega | exact Int32.le_refl _ | decide)) ⟨va_cnB 1 hts gX6_isAimSound_X5_leastRing_n147 rfl rfl rfl (hN.1 15 _ rfl) (hts (.initialized RX5) (by decide +kernel)) (by decide +kernel) ⟨Nat.le_of_ble_eq_true rfl, Nat.le_of_ble_eq_true rfl⟩, hts (.static yX5_leastRing) (by decide +kernel), trivial⟩ (kW_S hP hK hD hN [1, 2] rfl rfl rfl) rfl rfl hl.1 rfl (lv_room (Nat.le_of_ble_eq_true rfl)) dX6_isAimSound_55 ⟨Nat.zero_le _, Nat.zero_le _⟩) hP hS (fun H locs hP hS => ?_)
      refine lv_topi (fun least_2 eleast_2 => ?_)
      have hr := bd_to hr eleast_2
      refine lv_istore_n (lv' := [(1, .int least_2), (0, .ref s0)]) hx hb dX6_isAimSound_58 rfl hl (by decide) rfl (fun ls hl => ?_)
      refine lv_iload_n hx hb dX6_isAimSound_59 rfl (lv_at hl 0 rfl) ?_
      refine lv_iconst (v := (-1)) hx hb dX6_isAimSound_60 (by decide) ?_
      refine lv_icmp_eq (tgt := 75) hx hb dX6_isAimSound_61 (by decide) (fun c_3 => ?_) (fun c_3 => ?_)
      · have hr := if_to hr c_3
        refine lv_iconst (v := 1) hx hb dX6_isAimSound_75 (by decide) ?_
        refine lv_goto (tgt := 80) hx hb dX6_isAimSound_76 (by decide) ?_
        have he := hr.trans hρ
        exact W.zret (v := 1) hx hb hr0 rfl (fun t ht hW => kR_end he hS ht) hS.2.2 dX6_isAimSound_80
      · have hr := if_no hr c_3
        refine lv_iload_n hx hb dX6_isAimSound_64 rfl (lv_at hl 0 rfl) ?_
        refine lv_aload_n hx hb dX6_isAimSound_65 rfl (lv_at hl 1 rfl) ?_
        refine va_get (D := (dC, dI)) (ci := 5) (v := .ref a0) (C := RX6) (T := TX6) (N := 10) hx hb hts (by decide +kernel) hown hK hP 0 rfl rfl 3 (by decide) (hts (.fieldLink RX6 26 "Shortring" "hunt" "LShortring$Hunt;") (by decide +kernel)) (fun _ h9 => h9) rfl dX6_isAimSound_66 ?_
        refine va_getN (D := (dC, dI)) (ci := 0) (v := .int len) (C := RX0) (T := TX0) (N := 11) hx hb hts (by decide +kernel) hown hK hP 3 rfl rfl 6 (by decide) (va_Nw.use rfl (hN.2 4 _ rfl)) (fun _ h9 => h9) rfl dX6_isAimSound_69 ?_
        refine lv_icmp_lt (tgt := 79) hx hb dX6_isAimSound_72 (by decide) (fun c_4 => ?_) (fun c_4 => ?_)
        · have hr := if_to hr c_4
          refine lv_iconst (v := 0) hx hb dX6_isAimSound_79 (by decide) ?_
          have he := hr.trans hρ
          exact W.zret (v := 0) hx hb hr0 rfl (fun t ht hW => kR_end he hS ht) hS.2.2 dX6_isAimSound_80
        · have hr := if_no hr c_4
          refine lv_iconst (v := 1) hx hb dX6_isAimSound_75 (by decide) ?_
          refine lv_goto (tgt := 80) hx hb dX6_isAimSound_76 (by decide) ?_
          have he := hr.trans hρ
          exact W.zret (v := 1) hx hb hr0 rfl (fun t ht hW => kR_end he hS ht) hS.2.2 dX6_isAimSound_80
    have lp_14 : ∀ (n_14 knot : Nat)  (H : Heap) (locs : List Loc) (ls : Array Slot), knot + n_14 = K → L_isAimSound_14 K f isOn cnt len (bd (P_leastRing K f) (fun least_2 => if least_2 = (-1 : Int32) then 1 else if least_2 < len then 0 else 1)) n_14 knot = ρ → va_P (dC, dI) kCl [(s0, .inr (5, [.ref h0, .ref sc0, .ref kp0, .ref a0, .ref q0, .ref d0, .ref c0, .ref ta0, .int km, .int rf])), (h0, .inr (3, [.ref h1, .int (nI K)])), (h1, .inl (cI, 16, .inl f)), (a0, .inr (0, [.ref a1, .ref a2, .ref a3, .ref a4, .int isOn, .int cnt, .int len, .int stp, .int sta, .int pm, .int bm])), (a1, .inl (cI, 16, .inl bw)), (a2, .inl (cI, 120, .inl bars)), (a3, .inl (cI, 40, .inl puts)), (a4, .inl (cI, 40, .inl bap))] H → va_S (fun _ => False) s.heap H locs → lv_has ls 2 [(1, .int (nI knot)), (0, .ref s0)] → W p l e (headSpec wsX6_isAimSound rm_X6_isAimSound).room s m (([.ref s0] : List Value).toArray) below meth c H locs 0 0 (MQ below (kR (P_isAimSound K f isOn cnt len)) (([.ref s0] : List Value).toArray) s 0 0 (fun _ => False)) (F0 m 14 ls []) := by
      intro n_14
      induction n_14 with
      | zero =>
        intro knot  H locs ls hi hr hP hS hl
        rewrite [L_isAimSound_14] at hr
        refine lv_iload_n hx hb dX6_isAimSound_14 rfl (lv_at hl 0 rfl) ?_
        refine lv_aload_n hx hb dX6_isAimSound_15 rfl (lv_at hl 1 rfl) ?_
        refine va_get (D := (dC, dI)) (ci := 5) (v := .ref h0) (C := RX6) (T := TX6) (N := 10) hx hb hts (by decide +kernel) hown hK hP 0 rfl rfl 0 (by decide) (hts (.fieldLink RX6 12 "Shortring" "net" "LShortring$Net;") (by decide +kernel)) (fun _ h9 => h9) rfl dX6_isAimSound_16 ?_
        refine va_getN (D := (dC, dI)) (ci := 3) (v := .int (nI K)) (C := RX3) (T := TX3) (N := 2) hx hb hts (by decide +kernel) hown hK hP 1 rfl rfl 1 (by decide) (va_Nw.use rfl (hN.2 0 _ rfl)) (fun _ h9 => h9) rfl dX6_isAimSound_19 ?_
        refine lv_icmp_ge (tgt := 51) hx hb dX6_isAimSound_22 (by decide) (fun c_5 => ?_) (fun c_5 => ?_)
        · exact ex_14  _ _ _ hr hP hS (lv_sub hl [1] rfl)
        · exact absurd (kTop (i := knot) (N := K) rfl (by omega)) c_5
      | succ n_14 ih_14 =>
        intro knot  H locs ls hi hr hP hS hl
        rewrite [L_isAimSound_14] at hr
        refine lv_iload_n hx hb dX6_isAimSound_14 rfl (lv_at hl 0 rfl) ?_
        refine lv_aload_n hx hb dX6_isAimSound_15 rfl (lv_at hl 1 rfl) ?_
        refine va_get (D := (dC, dI)) (ci := 5) (v := .ref h0) (C := RX6) (T := TX6) (N := 10) hx hb hts (by decide +kernel) hown hK hP 0 rfl rfl 0 (by decide) (hts (.fieldLink RX6 12 "Shortring" "net" "LShortring$Net;") (by decide +kernel)) (fun _ h9 => h9) rfl dX6_isAimSound_16 ?_
        refine va_getN (D := (dC, dI)) (ci := 3) (v := .int (nI K)) (C := RX3) (T := TX3) (N := 2) hx hb hts (by decide +kernel) hown hK hP 1 rfl rfl 1 (by decide) (va_Nw.use rfl (hN.2 0 _ rfl)) (fun _ h9 => h9) rfl dX6_isAimSound_19 ?_
        refine lv_icmp_ge (tgt := 51) hx hb dX6_isAimSound_22 (by decide) (fun c_6 => ?_) (fun c_6 => ?_)
        · exact absurd c_6 (kLow (i := knot) (N := K) rfl (by omega) (by omega))
        · refine lv_aload_n hx hb dX6_isAimSound_25 rfl (lv_at hl 1 rfl) ?_
          refine va_get (D := (dC, dI)) (ci := 5) (v := .ref h0) (C := RX6) (T := TX6) (N := 10) hx hb hts (by decide +kernel) hown hK hP 0 rfl rfl 0 (by decide) (hts (.fieldLink RX6 12 "Shortring" "net" "LShortring$Net;") (by decide +kernel)) (fun _ h9 => h9) rfl dX6_isAimSound_26 ?_
          refine lv_iload_n hx hb dX6_isAimSound_29 rfl (lv_at hl 0 rfl) ?_
          refine kCall (va_runVN (As := [.int (nI knot)]) (rest := []) ⟨hx, hb, hml, hown, hts⟩ (k_X3_countOf l dC dI cI cN h0 h1 K f (nI knot) (by first | assumption | omega | exact Int32.le_refl _ | decide)) ⟨va_cnB 1 hts gX6_isAimSound_X3_countOf_n102 rfl rfl rfl (hN.1 10 _ rfl) (hts (.initialized RX3) (by decide +kernel)) (by decide +kernel) ⟨Nat.le_of_ble_eq_true rfl, Nat.le_of_ble_eq_true rfl⟩, hts (.instanceMethod yX3_countOf) (by decide +kernel), hts (.selects RX3 yX3_countOf yX3_countOf) (by decide +kernel)⟩ (kW_V hP hK hD hN (ci := 3) (q0 := 1) rfl rfl [1, 2] rfl rfl rfl) rfl rfl hl.1 rfl (lv_room (Nat.le_of_ble_eq_true rfl)) dX6_isAimSound_30 ⟨Nat.zero_le _, Nat.zero_le _⟩) hP hS (fun H locs hP hS => ?_)
          refine lv_aload_n hx hb dX6_isAimSound_33 rfl (lv_at hl 1 rfl) ?_
          refine va_get (D := (dC, dI)) (ci := 5) (v := .ref a0) (C := RX6) (T := TX6) (N := 10) hx hb hts (by decide +kernel) hown hK hP 0 rfl rfl 3 (by decide) (hts (.fieldLink RX6 26 "Shortring" "hunt" "LShortring$Hunt;") (by decide +kernel)) (fun _ h9 => h9) rfl dX6_isAimSound_34 ?_
          refine va_getN (D := (dC, dI)) (ci := 0) (v := .int cnt) (C := RX0) (T := TX0) (N := 11) hx hb hts (by decide +kernel) hown hK hP 3 rfl rfl 5 (by decide) (va_Nw.use rfl (hN.2 3 _ rfl)) (fun _ h9 => h9) rfl dX6_isAimSound_37 ?_
          refine lv_icmp_le (tgt := 45) hx hb dX6_isAimSound_40 (by decide) (fun c_7 => ?_) (fun c_7 => ?_)
          · have hr := if_to hr c_7
            refine lv_iinc (v := nI (knot + 1)) (lv' := [(1, .int (nI (knot + 1))), (0, .ref s0)]) hx hb dX6_isAimSound_45 hl (k := 0) rfl (nI_1 _) (by decide) rfl (fun ls hl => ?_)
            refine lv_goto (tgt := 14) hx hb dX6_isAimSound_48 (by decide) ?_
            exact ih_14 (knot + 1)  _ _ _ (by omega) hr hP hS (lv_sub hl [0, 1] rfl)
          · have hr := if_no hr c_7
            refine lv_iconst (v := 0) hx hb dX6_isAimSound_43 (by decide) ?_
            have he := hr.trans hρ
            exact W.zret (v := 0) hx hb hr0 rfl (fun t ht hW => kR_end he hS ht) hS.2.2 dX6_isAimSound_44
    exact lp_14 K 0  _ _ _ (by omega) hr hP hS (lv_sub hl [0, 1] rfl)
  · have hr := if_to hr c_1
    refine lv_iconst (v := 1) hx hb dX6_isAimSound_10 (by decide) ?_
    have he := hr.trans hρ
    exact W.zret (v := 1) hx hb hr0 rfl (fun t ht hW => kR_end he hS ht) hS.2.2 dX6_isAimSound_11
def P_tallied (ta : Nat → Int32) (length : Int32) : Int32 :=
  if length < 0 then
    0
  else
    if (8 : Int32) ≤ length then
      0
    else
      (ta (length).toNatClampNeg) / (2 : Int32)
abbrev rm_X6_tallied : Room := { frames := 0, cells := 0, slots := 0, locals := 0 }
set_option maxHeartbeats 4000000 in
set_option maxRecDepth 100000 in
theorem k_X6_tallied (l : Launch) (dC : Nat → ClassId) (dI : Nat → Nat → Nat) (cI cN : ClassId) (h0 : Nat) (s0 : Nat) (sc0 : Nat) (kp0 : Nat) (ta0 : Nat) (km : Int32) (rf : Int32) (a0 : Nat) (q0 : Nat) (d0 : Nat) (c0 : Nat) (ta : Nat → Int32) (length : Int32) : Met l yX6_tallied wsX6_tallied rm_X6_tallied (va_Pc [.ref s0, .int length] (kW dC dI cI cN [(s0, .inr (5, [.ref h0, .ref sc0, .ref kp0, .ref a0, .ref q0, .ref d0, .ref c0, .ref ta0, .int km, .int rf])), (ta0, .inl (cI, 8, .inl ta))])) (kR (P_tallied ta length)) 0 0 (fun _ => False) := by
  refine Met.ofW (cc := cX6_tallied) (maxL := 2) (ret := (some .int)) (by decide) rfl ?_
  intro p e s m args below meth c s₁ B hml hv
  obtain ⟨rfl, hP, hK, hD, hN⟩ := hv
  have hx := B.exec
  have hb := B.bytes
  have hr0 := B.returns
  have hts := atoms_spec (ws := wsX6_tallied) B.pre
  have hown : s.vm.findClass RX6 = some m.cls := findClass_of_methodNamed B.named
  have hlocks := B.notSynchronized
  have hS : va_S (fun _ => False) s.heap s.heap [] := va_S.rf
  have hl := lv_entry ([.ref s0, .int length]) (n := 2) (Nat.le_of_ble_eq_true rfl)
  rw [lg_entry_eq]
  generalize (lg_sl ([.ref s0, .int length]) ++ List.replicate (2 - (lg_sl ([.ref s0, .int length])).length) Slot.unset).toArray = ls at hl ⊢
  have hl : lv_has ls 2 [(0, .ref s0), (1, .int length)] := hl
  obtain ⟨ρ, hρ⟩ : ∃ ρ : Int32, ρ = P_tallied ta length := ⟨_, rfl⟩
  have hr : P_tallied ta length = ρ := hρ.symm
  rewrite [P_tallied] at hr
  refine lv_iload_n hx hb dX6_tallied_0 rfl (lv_at hl 1 rfl) ?_
  refine lv_if_lt (tgt := 24) hx hb dX6_tallied_1 (by decide) (fun c_1 => ?_) (fun c_1 => ?_)
  · have hr := if_to hr c_1
    refine lv_iconst (v := 0) hx hb dX6_tallied_24 (by decide) ?_
    have he := hr.trans hρ
    exact W.iret (v := 0) hx hb hr0 (fun t ht hW => kR_end he hS ht) hS.2.2 dX6_tallied_25
  · have hr := if_no hr c_1
    refine lv_iload_n hx hb dX6_tallied_4 rfl (lv_at hl 1 rfl) ?_
    refine lv_aload_n hx hb dX6_tallied_5 rfl (lv_at hl 0 rfl) ?_
    refine va_get (D := (dC, dI)) (ci := 5) (v := .ref ta0) (C := RX6) (T := TX6) (N := 10) hx hb hts (by decide +kernel) hown hK hP 0 rfl rfl 7 (by decide) (hts (.fieldLink RX6 51 "Shortring" "tally" "[I") (by decide +kernel)) (fun _ h9 => h9) rfl dX6_tallied_6 ?_
    refine va_alen (v := 8) hx hb hK hP 1 0 rfl rfl rfl dX6_tallied_9 ?_
    refine lv_icmp_ge (tgt := 24) hx hb dX6_tallied_10 (by decide) (fun c_2 => ?_) (fun c_2 => ?_)
    · have hr := if_to hr c_2
      refine lv_iconst (v := 0) hx hb dX6_tallied_24 (by decide) ?_
      have he := hr.trans hρ
      exact W.iret (v := 0) hx hb hr0 (fun t ht hW => kR_end he hS ht) hS.2.2 dX6_tallied_25
    · have hr := if_no hr c_2
      refine lv_aload_n hx hb dX6_tallied_13 rfl (lv_at hl 0 rfl) ?_
      refine va_get (D := (dC, dI)) (ci := 5) (v := .ref ta0) (C := RX6) (T := TX6) (N := 10) hx hb hts (by decide +kernel) hown hK hP 0 rfl rfl 7 (by decide) (hts (.fieldLink RX6 51 "Shortring" "tally" "[I") (by decide +kernel)) (fun _ h9 => h9) rfl dX6_tallied_14 ?_
      refine lv_iload_n hx hb dX6_tallied_17 rfl (lv_at hl 1 rfl) ?_
      refine va_iald hx hb hK hP 1 0 rfl rfl (kIn (N := 8) (by decide) (by assumption) (by assumption)) dX6_tallied_18 ?_
      refine lv_iconst (v := 2) hx hb dX6_tallied_19 (by decide) ?_
      refine lv_idiv hx hb dX6_tallied_20 (by decide) ?_
      refine lv_goto (tgt := 25) hx hb dX6_tallied_21 (by decide) ?_
      have he := hr.trans hρ
      exact W.iret (v := (ta (length).toNatClampNeg) / (2 : Int32)) hx hb hr0 (fun t ht hW => kR_end he hS ht) hS.2.2 dX6_tallied_25
def L_layByJumps_20 (M : Nat) (jumps : Int32) (one : Nat) (k : (Nat → Int32) → Nat → Int32) : Nat → Nat → (Nat → Int32) → Nat → Int32
  | 0, other, fb => k fb
  | n + 1, other, fb =>
    bd ((nI other) - (nI one)) (fun up_1 =>
      if (P_holds jumps (if ((nI M) - up_1) < up_1 then ((nI M) - up_1) else up_1)) = 0 then
        L_layByJumps_20 M jumps one k n (other + 1) fb
      else
        bd (P_join M fb (nI one) (nI other)) (fun r_2 =>
          L_layByJumps_20 M jumps one k n (other + 1) r_2))
def L_layByJumps_10 (M : Nat) (jumps : Int32) (k : (Nat → Int32) → Nat → Int32) : Nat → Nat → (Nat → Int32) → Nat → Int32
  | 0, one, fa => k fa
  | n + 1, one, fa =>
    L_layByJumps_20 M jumps one (fun fb => L_layByJumps_10 M jumps k n (one + 1) fb) (M - (one + 1)) (one + 1) fa
def P_layByJumps (f : Nat → Int32) (M : Nat) (jumps : Int32) : Nat → Int32 :=
  bd (P_lay f) (fun r_1 =>
    L_layByJumps_10 M jumps (fun fa => fa) M 0 r_1)
abbrev rm_X6_layByJumps : Room := { frames := 2, cells := 0, slots := 0, locals := 43 }
set_option maxHeartbeats 4000000 in
set_option maxRecDepth 100000 in
theorem k_X6_layByJumps (l : Launch) (dC : Nat → ClassId) (dI : Nat → Nat → Nat) (cI cN : ClassId) (s0 : Nat) (sc0 : Nat) (kp0 : Nat) (ta0 : Nat) (km : Int32) (rf : Int32) (a0 : Nat) (q0 : Nat) (d0 : Nat) (c0 : Nat) (h0 : Nat) (h1 : Nat) (K : Nat) (f : Nat → Int32) (M : Nat) (jumps : Int32) (hM : M ≤ 16) (sz : Nat) : Met l yX6_layByJumps wsX6_layByJumps rm_X6_layByJumps (va_Pc [.ref s0, .int (nI M), .int jumps] (kU dC dI cI cN [(s0, .inr (5, [.ref h0, .ref sc0, .ref kp0, .ref a0, .ref q0, .ref d0, .ref c0, .ref ta0, .int km, .int rf])), (h0, .inr (3, [.ref h1, .int (nI K)])), (h1, .inl (cI, 16, .inl f))] sz)) (kV dC dI [(s0, .inr (5, [.ref h0, .ref sc0, .ref kp0, .ref a0, .ref q0, .ref d0, .ref c0, .ref ta0, .int km, .int rf])), (h0, .inr (3, [.ref h1, .int (nI M)])), (h1, .inl (cI, 16, .inl ((P_layByJumps f M jumps))))] (va_A [(s0, .inr (5, [.ref h0, .ref sc0, .ref kp0, .ref a0, .ref q0, .ref d0, .ref c0, .ref ta0, .int km, .int rf])), (h0, .inr (3, [.ref h1, .int (nI K)])), (h1, .inl (cI, 16, .inl f))] sz)) 0 0 (va_A [(s0, .inr (5, [.ref h0, .ref sc0, .ref kp0, .ref a0, .ref q0, .ref d0, .ref c0, .ref ta0, .int km, .int rf])), (h0, .inr (3, [.ref h1, .int (nI K)])), (h1, .inl (cI, 16, .inl f))] sz) := by
  refine Met.ofW (cc := cX6_layByJumps) (maxL := 6) (ret := none) (by decide) rfl ?_
  intro p e s m args below meth c s₁ B hml hv
  obtain ⟨rfl, hsz, hP, hK, hD0, hN⟩ := hv
  have hx := B.exec
  have hb := B.bytes
  have hr0 := B.returns
  have hts := atoms_spec (ws := wsX6_layByJumps) B.pre
  have hown : s.vm.findClass RX6 = some m.cls := findClass_of_methodNamed B.named
  have hlocks := B.notSynchronized
  subst hsz
  have hD := hD0.self (sz := s.heap.size)
  generalize hAe : va_A [(s0, .inr (5, [.ref h0, .ref sc0, .ref kp0, .ref a0, .ref q0, .ref d0, .ref c0, .ref ta0, .int km, .int rf])), (h0, .inr (3, [.ref h1, .int (nI K)])), (h1, .inl (cI, 16, .inl f))] s.heap.size = A at hD ⊢
  have hA : ∀ q : Nat, s.heap.size ≤ q → A q := fun q h => by rw [← hAe]; exact Or.inr h
  have hS : va_S A s.heap s.heap [] := va_S.rf
  have hl := lv_entry ([.ref s0, .int (nI M), .int jumps]) (n := 6) (Nat.le_of_ble_eq_true rfl)
  rw [lg_entry_eq]
  generalize (lg_sl ([.ref s0, .int (nI M), .int jumps]) ++ List.replicate (6 - (lg_sl ([.ref s0, .int (nI M), .int jumps])).length) Slot.unset).toArray = ls at hl ⊢
  have hl : lv_has ls 6 [(0, .ref s0), (1, .int (nI M)), (2, .int jumps)] := hl
  obtain ⟨ρ, hρ⟩ : ∃ ρ : Nat → Int32, ρ = P_layByJumps f M jumps := ⟨_, rfl⟩
  have hr : P_layByJumps f M jumps = ρ := hρ.symm
  rewrite [P_layByJumps] at hr
  refine lv_aload_n hx hb dX6_layByJumps_0 rfl (lv_at hl 0 rfl) ?_
  refine va_get (D := (dC, dI)) (ci := 5) (v := .ref h0) (C := RX6) (T := TX6) (N := 10) hx hb hts (by decide +kernel) hown hK hP 0 rfl rfl 0 (by decide) (hts (.fieldLink RX6 12 "Shortring" "net" "LShortring$Net;") (by decide +kernel)) (fun _ h9 => h9) rfl dX6_layByJumps_1 ?_
  refine lv_iload_n hx hb dX6_layByJumps_4 rfl (lv_at hl 1 rfl) ?_
  refine kCallV (wr := [(s0, .inr (5, [.ref h0, .ref sc0, .ref kp0, .ref a0, .ref q0, .ref d0, .ref c0, .ref ta0, .int km, .int rf]))]) (va_runVN (As := [.int (nI M)]) (rest := []) ⟨hx, hb, hml, hown, hts⟩ (k_X3_lay l dC dI cI cN h0 h1 K f M _) ⟨va_cnB 1 hts gX6_layByJumps_X3_lay_n76 rfl rfl rfl (hN.1 5 _ rfl) (hts (.initialized RX3) (by decide +kernel)) (by decide +kernel) ⟨Nat.le_of_ble_eq_true rfl, Nat.le_of_ble_eq_true rfl⟩, hts (.instanceMethod yX3_lay) (by decide +kernel), hts (.selects RX3 yX3_lay yX3_lay) (by decide +kernel)⟩ (kU_V hP hK hD hN (ci := 3) (q0 := 1) rfl rfl [1, 2] rfl rfl rfl) rfl rfl hl.1 rfl (lv_room (Nat.le_of_ble_eq_true rfl)) dX6_layByJumps_5 ⟨Nat.zero_le _, Nat.zero_le _⟩) hP hD hS hA [1, 2] [0] rfl rfl rfl rfl (by decide) rfl (fun H locs hP hD hS => ?_)
  obtain ⟨r_1, er_1⟩ : ∃ y : Nat → Int32, y = (P_lay f) := ⟨_, rfl⟩
  try rw [← er_1] at hP hD
  have hr := bd_to hr er_1
  have hP : va_P (dC, dI) kCl [(s0, .inr (5, [.ref h0, .ref sc0, .ref kp0, .ref a0, .ref q0, .ref d0, .ref c0, .ref ta0, .int km, .int rf])), (h0, .inr (3, [.ref h1, .int (nI M)])), (h1, .inl (cI, 16, .inl r_1))] H := hP.sub [0, 1, 2] rfl
  have hD : va_D A [(s0, .inr (5, [.ref h0, .ref sc0, .ref kp0, .ref a0, .ref q0, .ref d0, .ref c0, .ref ta0, .int km, .int rf])), (h0, .inr (3, [.ref h1, .int (nI M)])), (h1, .inl (cI, 16, .inl r_1))] := hD.sub [0, 1, 2] (by decide) rfl
  refine lv_iconst (v := 0) hx hb dX6_layByJumps_8 (by decide) ?_
  refine lv_istore_n (lv' := [(3, .int 0), (0, .ref s0), (1, .int (nI M)), (2, .int jumps)]) hx hb dX6_layByJumps_9 rfl hl (by decide) rfl (fun ls hl => ?_)
  have ex_10 : ∀ (fa : Nat → Int32) (H : Heap) (locs : List Loc) (ls : Array Slot), (fa) = ρ → va_P (dC, dI) kCl [(s0, .inr (5, [.ref h0, .ref sc0, .ref kp0, .ref a0, .ref q0, .ref d0, .ref c0, .ref ta0, .int km, .int rf])), (h0, .inr (3, [.ref h1, .int (nI M)])), (h1, .inl (cI, 16, .inl fa))] H → va_D A [(s0, .inr (5, [.ref h0, .ref sc0, .ref kp0, .ref a0, .ref q0, .ref d0, .ref c0, .ref ta0, .int km, .int rf])), (h0, .inr (3, [.ref h1, .int (nI M)])), (h1, .inl (cI, 16, .inl fa))] → va_S A s.heap H locs → lv_has ls 6 [(0, .ref s0), (1, .int (nI M)), (2, .int jumps)] → W p l e (headSpec wsX6_layByJumps rm_X6_layByJumps).room s m (([.ref s0, .int (nI M), .int jumps] : List Value).toArray) below meth c H locs 0 0 (MQ below (kV dC dI [(s0, .inr (5, [.ref h0, .ref sc0, .ref kp0, .ref a0, .ref q0, .ref d0, .ref c0, .ref ta0, .int km, .int rf])), (h0, .inr (3, [.ref h1, .int (nI M)])), (h1, .inl (cI, 16, .inl ((P_layByJumps f M jumps))))] A) (([.ref s0, .int (nI M), .int jumps] : List Value).toArray) s 0 0 A) (F0 m 70 ls []) := by
    intro fa H locs ls hr hP hD hS hl
    have he := hr.trans hρ
    exact W.vret hx hb hr0 (fun t ht hW => kV_end (by rw [← he]; exact hP) hS ht) hS.2.2 dX6_layByJumps_70
  have lp_10 : ∀ (n_10 one : Nat) (fa : Nat → Int32) (H : Heap) (locs : List Loc) (ls : Array Slot), one + n_10 = M → L_layByJumps_10 M jumps (fun fa => fa) n_10 one fa = ρ → va_P (dC, dI) kCl [(s0, .inr (5, [.ref h0, .ref sc0, .ref kp0, .ref a0, .ref q0, .ref d0, .ref c0, .ref ta0, .int km, .int rf])), (h0, .inr (3, [.ref h1, .int (nI M)])), (h1, .inl (cI, 16, .inl fa))] H → va_D A [(s0, .inr (5, [.ref h0, .ref sc0, .ref kp0, .ref a0, .ref q0, .ref d0, .ref c0, .ref ta0, .int km, .int rf])), (h0, .inr (3, [.ref h1, .int (nI M)])), (h1, .inl (cI, 16, .inl fa))] → va_S A s.heap H locs → lv_has ls 6 [(3, .int (nI one)), (0, .ref s0), (1, .int (nI M)), (2, .int jumps)] → W p l e (headSpec wsX6_layByJumps rm_X6_layByJumps).room s m (([.ref s0, .int (nI M), .int jumps] : List Value).toArray) below meth c H locs 0 0 (MQ below (kV dC dI [(s0, .inr (5, [.ref h0, .ref sc0, .ref kp0, .ref a0, .ref q0, .ref d0, .ref c0, .ref ta0, .int km, .int rf])), (h0, .inr (3, [.ref h1, .int (nI M)])), (h1, .inl (cI, 16, .inl ((P_layByJumps f M jumps))))] A) (([.ref s0, .int (nI M), .int jumps] : List Value).toArray) s 0 0 A) (F0 m 10 ls []) := by
    intro n_10
    induction n_10 with
    | zero =>
      intro one fa H locs ls hi hr hP hD hS hl
      rewrite [L_layByJumps_10] at hr
      refine lv_iload_n hx hb dX6_layByJumps_10 rfl (lv_at hl 0 rfl) ?_
      refine lv_iload_n hx hb dX6_layByJumps_11 rfl (lv_at hl 2 rfl) ?_
      refine lv_icmp_ge (tgt := 70) hx hb dX6_layByJumps_12 (by decide) (fun c_2 => ?_) (fun c_2 => ?_)
      · exact ex_10 fa _ _ _ hr hP hD hS (lv_sub hl [1, 2, 3] rfl)
      · exact absurd (kTop (i := one) (N := M) rfl (by omega)) c_2
    | succ n_10 ih_10 =>
      intro one fa H locs ls hi hr hP hD hS hl
      rewrite [L_layByJumps_10] at hr
      refine lv_iload_n hx hb dX6_layByJumps_10 rfl (lv_at hl 0 rfl) ?_
      refine lv_iload_n hx hb dX6_layByJumps_11 rfl (lv_at hl 2 rfl) ?_
      refine lv_icmp_ge (tgt := 70) hx hb dX6_layByJumps_12 (by decide) (fun c_3 => ?_) (fun c_3 => ?_)
      · exact absurd c_3 (kLow (i := one) (N := M) rfl (by omega) (by omega))
      · refine lv_iload_n hx hb dX6_layByJumps_15 rfl (lv_at hl 0 rfl) ?_
        refine lv_iconst (v := 1) hx hb dX6_layByJumps_16 (by decide) ?_
        refine lv_iadd hx hb dX6_layByJumps_17 ?_
        refine kRen (y := nI (one + 1)) (nI_1 _) ?_
        refine lv_istore (lv' := [(4, .int (nI (one + 1))), (3, .int (nI one)), (0, .ref s0), (1, .int (nI M)), (2, .int jumps)]) hx hb dX6_layByJumps_18 hl (by decide) rfl (fun ls hl => ?_)
        have ex_20 : ∀ (fb : Nat → Int32) (H : Heap) (locs : List Loc) (ls : Array Slot), (L_layByJumps_10 M jumps (fun fa => fa) n_10 (one + 1) fb) = ρ → va_P (dC, dI) kCl [(s0, .inr (5, [.ref h0, .ref sc0, .ref kp0, .ref a0, .ref q0, .ref d0, .ref c0, .ref ta0, .int km, .int rf])), (h0, .inr (3, [.ref h1, .int (nI M)])), (h1, .inl (cI, 16, .inl fb))] H → va_D A [(s0, .inr (5, [.ref h0, .ref sc0, .ref kp0, .ref a0, .ref q0, .ref d0, .ref c0, .ref ta0, .int km, .int rf])), (h0, .inr (3, [.ref h1, .int (nI M)])), (h1, .inl (cI, 16, .inl fb))] → va_S A s.heap H locs → lv_has ls 6 [(0, .ref s0), (1, .int (nI M)), (2, .int jumps), (3, .int (nI one))] → W p l e (headSpec wsX6_layByJumps rm_X6_layByJumps).room s m (([.ref s0, .int (nI M), .int jumps] : List Value).toArray) below meth c H locs 0 0 (MQ below (kV dC dI [(s0, .inr (5, [.ref h0, .ref sc0, .ref kp0, .ref a0, .ref q0, .ref d0, .ref c0, .ref ta0, .int km, .int rf])), (h0, .inr (3, [.ref h1, .int (nI M)])), (h1, .inl (cI, 16, .inl ((P_layByJumps f M jumps))))] A) (([.ref s0, .int (nI M), .int jumps] : List Value).toArray) s 0 0 A) (F0 m 64 ls []) := by
          intro fb H locs ls hr hP hD hS hl
          refine lv_iinc (v := nI (one + 1)) (lv' := [(3, .int (nI (one + 1))), (0, .ref s0), (1, .int (nI M)), (2, .int jumps)]) hx hb dX6_layByJumps_64 hl (k := 3) rfl (nI_1 _) (by decide) rfl (fun ls hl => ?_)
          refine lv_goto (tgt := 10) hx hb dX6_layByJumps_67 (by decide) ?_
          exact ih_10 (one + 1) fb _ _ _ (by omega) hr hP hD hS (lv_sub hl [0, 1, 2, 3] rfl)
        have lp_20 : ∀ (n_20 other : Nat) (fb : Nat → Int32) (H : Heap) (locs : List Loc) (ls : Array Slot), other + n_20 = M → L_layByJumps_20 M jumps one (fun fb => L_layByJumps_10 M jumps (fun fa => fa) n_10 (one + 1) fb) n_20 other fb = ρ → va_P (dC, dI) kCl [(s0, .inr (5, [.ref h0, .ref sc0, .ref kp0, .ref a0, .ref q0, .ref d0, .ref c0, .ref ta0, .int km, .int rf])), (h0, .inr (3, [.ref h1, .int (nI M)])), (h1, .inl (cI, 16, .inl fb))] H → va_D A [(s0, .inr (5, [.ref h0, .ref sc0, .ref kp0, .ref a0, .ref q0, .ref d0, .ref c0, .ref ta0, .int km, .int rf])), (h0, .inr (3, [.ref h1, .int (nI M)])), (h1, .inl (cI, 16, .inl fb))] → va_S A s.heap H locs → lv_has ls 6 [(4, .int (nI other)), (0, .ref s0), (1, .int (nI M)), (2, .int jumps), (3, .int (nI one))] → W p l e (headSpec wsX6_layByJumps rm_X6_layByJumps).room s m (([.ref s0, .int (nI M), .int jumps] : List Value).toArray) below meth c H locs 0 0 (MQ below (kV dC dI [(s0, .inr (5, [.ref h0, .ref sc0, .ref kp0, .ref a0, .ref q0, .ref d0, .ref c0, .ref ta0, .int km, .int rf])), (h0, .inr (3, [.ref h1, .int (nI M)])), (h1, .inl (cI, 16, .inl ((P_layByJumps f M jumps))))] A) (([.ref s0, .int (nI M), .int jumps] : List Value).toArray) s 0 0 A) (F0 m 20 ls []) := by
          intro n_20
          induction n_20 with
          | zero =>
            intro other fb H locs ls hi hr hP hD hS hl
            rewrite [L_layByJumps_20] at hr
            refine lv_iload hx hb dX6_layByJumps_20 (lv_at hl 0 rfl) ?_
            refine lv_iload_n hx hb dX6_layByJumps_22 rfl (lv_at hl 2 rfl) ?_
            refine lv_icmp_ge (tgt := 64) hx hb dX6_layByJumps_23 (by decide) (fun c_4 => ?_) (fun c_4 => ?_)
            · exact ex_20 fb _ _ _ hr hP hD hS (lv_sub hl [1, 2, 3, 4] rfl)
            · exact absurd (kTop (i := other) (N := M) rfl (by omega)) c_4
          | succ n_20 ih_20 =>
            intro other fb H locs ls hi hr hP hD hS hl
            rewrite [L_layByJumps_20] at hr
            refine lv_iload hx hb dX6_layByJumps_20 (lv_at hl 0 rfl) ?_
            refine lv_iload_n hx hb dX6_layByJumps_22 rfl (lv_at hl 2 rfl) ?_
            refine lv_icmp_ge (tgt := 64) hx hb dX6_layByJumps_23 (by decide) (fun c_5 => ?_) (fun c_5 => ?_)
            · exact absurd c_5 (kLow (i := other) (N := M) rfl (by omega) (by omega))
            · refine lv_iload hx hb dX6_layByJumps_26 (lv_at hl 0 rfl) ?_
              refine lv_iload_n hx hb dX6_layByJumps_28 rfl (lv_at hl 4 rfl) ?_
              refine lv_isub hx hb dX6_layByJumps_29 ?_
              refine lv_topi (fun up_6 eup_6 => ?_)
              have hr := bd_to hr eup_6
              refine lv_istore (lv' := [(5, .int up_6), (4, .int (nI other)), (0, .ref s0), (1, .int (nI M)), (2, .int jumps), (3, .int (nI one))]) hx hb dX6_layByJumps_30 hl (by decide) rfl (fun ls hl => ?_)
              refine lv_iload_n hx hb dX6_layByJumps_32 rfl (lv_at hl 4 rfl) ?_
              refine lv_iload hx hb dX6_layByJumps_33 (lv_at hl 0 rfl) ?_
              refine lv_iload_n hx hb dX6_layByJumps_35 rfl (lv_at hl 3 rfl) ?_
              refine lv_iload hx hb dX6_layByJumps_36 (lv_at hl 0 rfl) ?_
              refine lv_isub hx hb dX6_layByJumps_38 ?_
              refine va_mmin hx hb (hml.trans hl.1.symm) hown (hts (.methodLink RX6 324 Lib.Math.min.name) (by decide +kernel)) (hts (.static Lib.Math.min.name) (by decide +kernel)) (hts (.initialized "java/lang/Math") (by decide +kernel)) (hts (.code Lib.Math.min.name Lib.Math.min.code 2 (some .int)) (by decide +kernel)) (Nat.le_of_ble_eq_true rfl) (Nat.le_of_ble_eq_true rfl) (Nat.zero_le _) (Nat.zero_le _) dX6_layByJumps_39 ?_
              refine kCall (va_runS (As := [.int jumps, .int (if ((nI M) - up_6) < up_6 then ((nI M) - up_6) else up_6)]) (rest := []) ⟨hx, hb, hml, hown, hts⟩ (k_X6_holds l dC dI cI cN jumps (if ((nI M) - up_6) < up_6 then ((nI M) - up_6) else up_6)) (va_cwS 2 hts gX6_layByJumps_X6_holds rfl rfl rfl (by decide +kernel) ⟨Nat.le_of_ble_eq_true rfl, Nat.le_of_ble_eq_true rfl⟩) (kW_S hP hK hD hN [] rfl rfl rfl) rfl rfl hl.1 rfl (lv_room (Nat.le_of_ble_eq_true rfl)) dX6_layByJumps_42 ⟨Nat.zero_le _, Nat.zero_le _⟩) hP hS (fun H locs hP hS => ?_)
              refine lv_if_eq (tgt := 58) hx hb dX6_layByJumps_45 (by decide) (fun c_7 => ?_) (fun c_7 => ?_)
              · have hr := if_to hr c_7
                refine lv_iinc (v := nI (other + 1)) (lv' := [(4, .int (nI (other + 1))), (5, .int up_6), (0, .ref s0), (1, .int (nI M)), (2, .int jumps), (3, .int (nI one))]) hx hb dX6_layByJumps_58 hl (k := 1) rfl (nI_1 _) (by decide) rfl (fun ls hl => ?_)
                refine lv_goto (tgt := 20) hx hb dX6_layByJumps_61 (by decide) ?_
                exact ih_20 (other + 1) fb _ _ _ (by omega) hr hP hD hS (lv_sub hl [0, 2, 3, 4, 5] rfl)
              · have hr := if_no hr c_7
                refine lv_aload_n hx hb dX6_layByJumps_48 rfl (lv_at hl 2 rfl) ?_
                refine va_get (D := (dC, dI)) (ci := 5) (v := .ref h0) (C := RX6) (T := TX6) (N := 10) hx hb hts (by decide +kernel) hown hK hP 0 rfl rfl 0 (by decide) (hts (.fieldLink RX6 12 "Shortring" "net" "LShortring$Net;") (by decide +kernel)) (fun _ h9 => h9) rfl dX6_layByJumps_49 ?_
                refine lv_iload_n hx hb dX6_layByJumps_52 rfl (lv_at hl 5 rfl) ?_
                refine lv_iload hx hb dX6_layByJumps_53 (lv_at hl 1 rfl) ?_
                refine kCallV (wr := [(s0, .inr (5, [.ref h0, .ref sc0, .ref kp0, .ref a0, .ref q0, .ref d0, .ref c0, .ref ta0, .int km, .int rf]))]) (va_runVN (As := [.int (nI one), .int (nI other)]) (rest := []) ⟨hx, hb, hml, hown, hts⟩ (k_X3_join l dC dI cI cN h0 h1 M fb (nI one) (nI other) (by first | assumption | omega | exact Int32.le_refl _ | decide) _) ⟨va_cnB 2 hts gX6_layByJumps_X3_join_n111 rfl rfl rfl (hN.1 11 _ rfl) (hts (.initialized RX3) (by decide +kernel)) (by decide +kernel) ⟨Nat.le_of_ble_eq_true rfl, Nat.le_of_ble_eq_true rfl⟩, hts (.instanceMethod yX3_join) (by decide +kernel), hts (.selects RX3 yX3_join yX3_join) (by decide +kernel)⟩ (kU_V hP hK hD hN (ci := 3) (q0 := 1) rfl rfl [1, 2] rfl rfl rfl) rfl rfl hl.1 rfl (lv_room (Nat.le_of_ble_eq_true rfl)) dX6_layByJumps_55 ⟨Nat.zero_le _, Nat.zero_le _⟩) hP hD hS hA [1, 2] [0] rfl rfl rfl rfl (by decide) rfl (fun H locs hP hD hS => ?_)
                obtain ⟨r_8, er_8⟩ : ∃ y : Nat → Int32, y = (P_join M fb (nI one) (nI other)) := ⟨_, rfl⟩
                try rw [← er_8] at hP hD
                have hr := bd_to hr er_8
                have hP : va_P (dC, dI) kCl [(s0, .inr (5, [.ref h0, .ref sc0, .ref kp0, .ref a0, .ref q0, .ref d0, .ref c0, .ref ta0, .int km, .int rf])), (h0, .inr (3, [.ref h1, .int (nI M)])), (h1, .inl (cI, 16, .inl r_8))] H := hP.sub [0, 1, 2] rfl
                have hD : va_D A [(s0, .inr (5, [.ref h0, .ref sc0, .ref kp0, .ref a0, .ref q0, .ref d0, .ref c0, .ref ta0, .int km, .int rf])), (h0, .inr (3, [.ref h1, .int (nI M)])), (h1, .inl (cI, 16, .inl r_8))] := hD.sub [0, 1, 2] (by decide) rfl
                refine lv_iinc (v := nI (other + 1)) (lv' := [(4, .int (nI (other + 1))), (5, .int up_6), (0, .ref s0), (1, .int (nI M)), (2, .int jumps), (3, .int (nI one))]) hx hb dX6_layByJumps_58 hl (k := 1) rfl (nI_1 _) (by decide) rfl (fun ls hl => ?_)
                refine lv_goto (tgt := 20) hx hb dX6_layByJumps_61 (by decide) ?_
                exact ih_20 (other + 1) r_8 _ _ _ (by omega) hr hP hD hS (lv_sub hl [0, 2, 3, 4, 5] rfl)
        exact lp_20 (M - (one + 1)) (one + 1) fa _ _ _ (by omega) hr hP hD hS (lv_sub hl [0, 2, 3, 4, 1] rfl)
  exact lp_10 M 0 r_1 _ _ _ (by omega) hr hP hD hS (lv_sub hl [0, 1, 2, 3] rfl)
def L_layDouble_35 (K : Nat) (f : Nat → Int32) (marks : Int32) (one : Nat) (k : Int32 → (Nat → Int32) → Nat → Int32) : Nat → Nat → Int32 → (Nat → Int32) → Nat → Int32
  | 0, other, number, fb => k number fb
  | n + 1, other, number, fb =>
    if (P_isNear f (nI one) (nI other)) = 0 then
      L_layDouble_35 K f marks one k n (other + 1) number fb
    else
      bd (P_holds marks number) (fun isMarked_1 =>
        if isMarked_1 = 0 then
          bd (P_join (2 * K) fb (nI one) (nI other)) (fun r_2 =>
            if isMarked_1 = 0 then
              bd (P_join (2 * K) r_2 ((nI one) + (nI K)) ((nI other) + (nI K))) (fun r_3 =>
                L_layDouble_35 K f marks one k n (other + 1) (number + 1) r_3)
            else
              bd (P_join (2 * K) r_2 ((nI one) + (nI K)) (nI other)) (fun r_4 =>
                L_layDouble_35 K f marks one k n (other + 1) (number + 1) r_4))
        else
          bd (P_join (2 * K) fb (nI one) ((nI other) + (nI K))) (fun r_5 =>
            if isMarked_1 = 0 then
              bd (P_join (2 * K) r_5 ((nI one) + (nI K)) ((nI other) + (nI K))) (fun r_6 =>
                L_layDouble_35 K f marks one k n (other + 1) (number + 1) r_6)
            else
              bd (P_join (2 * K) r_5 ((nI one) + (nI K)) (nI other)) (fun r_7 =>
                L_layDouble_35 K f marks one k n (other + 1) (number + 1) r_7)))
def L_layDouble_23 (K : Nat) (f : Nat → Int32) (marks : Int32) (k : Int32 → (Nat → Int32) → Nat → Int32) : Nat → Nat → Int32 → (Nat → Int32) → Nat → Int32
  | 0, one, number, fa => k number fa
  | n + 1, one, number, fa =>
    L_layDouble_35 K f marks one (fun number fb => L_layDouble_23 K f marks k n (one + 1) number fb) (K - (one + 1)) (one + 1) number fa
def P_layDouble (K : Nat) (f : Nat → Int32) (fs : Nat → Int32) (marks : Int32) : Nat → Int32 :=
  bd (P_lay fs) (fun r_1 =>
    L_layDouble_23 K f marks (fun number fa => fa) K 0 0 r_1)
abbrev rm_X6_layDouble : Room := { frames := 2, cells := 0, slots := 0, locals := 43 }
set_option maxHeartbeats 4000000 in
set_option maxRecDepth 100000 in
theorem k_X6_layDouble (l : Launch) (dC : Nat → ClassId) (dI : Nat → Nat → Nat) (cI cN : ClassId) (s0 : Nat) (kp0 : Nat) (ta0 : Nat) (km : Int32) (rf : Int32) (a0 : Nat) (q0 : Nat) (d0 : Nat) (c0 : Nat) (h0 : Nat) (h1 : Nat) (K : Nat) (f : Nat → Int32) (sc0 : Nat) (sc1 : Nat) (KS : Nat) (fs : Nat → Int32) (marks : Int32) (hK : K ≤ 8) (sz : Nat) : Met l yX6_layDouble wsX6_layDouble rm_X6_layDouble (va_Pc [.ref s0, .int marks] (kU dC dI cI cN [(s0, .inr (5, [.ref h0, .ref sc0, .ref kp0, .ref a0, .ref q0, .ref d0, .ref c0, .ref ta0, .int km, .int rf])), (h0, .inr (3, [.ref h1, .int (nI K)])), (h1, .inl (cI, 16, .inl f)), (sc0, .inr (3, [.ref sc1, .int (nI KS)])), (sc1, .inl (cI, 16, .inl fs))] sz)) (kV dC dI [(s0, .inr (5, [.ref h0, .ref sc0, .ref kp0, .ref a0, .ref q0, .ref d0, .ref c0, .ref ta0, .int km, .int rf])), (h0, .inr (3, [.ref h1, .int (nI K)])), (h1, .inl (cI, 16, .inl f)), (sc0, .inr (3, [.ref sc1, .int (nI (2 * K))])), (sc1, .inl (cI, 16, .inl ((P_layDouble K f fs marks))))] (va_A [(s0, .inr (5, [.ref h0, .ref sc0, .ref kp0, .ref a0, .ref q0, .ref d0, .ref c0, .ref ta0, .int km, .int rf])), (h0, .inr (3, [.ref h1, .int (nI K)])), (h1, .inl (cI, 16, .inl f)), (sc0, .inr (3, [.ref sc1, .int (nI KS)])), (sc1, .inl (cI, 16, .inl fs))] sz)) 0 0 (va_A [(s0, .inr (5, [.ref h0, .ref sc0, .ref kp0, .ref a0, .ref q0, .ref d0, .ref c0, .ref ta0, .int km, .int rf])), (h0, .inr (3, [.ref h1, .int (nI K)])), (h1, .inl (cI, 16, .inl f)), (sc0, .inr (3, [.ref sc1, .int (nI KS)])), (sc1, .inl (cI, 16, .inl fs))] sz) := by
  refine Met.ofW (cc := cX6_layDouble) (maxL := 7) (ret := none) (by decide) rfl ?_
  intro p e s m args below meth c s₁ B hml hv
  obtain ⟨rfl, hsz, hP, hK, hD0, hN⟩ := hv
  have hx := B.exec
  have hb := B.bytes
  have hr0 := B.returns
  have hts := atoms_spec (ws := wsX6_layDouble) B.pre
  have hown : s.vm.findClass RX6 = some m.cls := findClass_of_methodNamed B.named
  have hlocks := B.notSynchronized
  subst hsz
  have hD := hD0.self (sz := s.heap.size)
  generalize hAe : va_A [(s0, .inr (5, [.ref h0, .ref sc0, .ref kp0, .ref a0, .ref q0, .ref d0, .ref c0, .ref ta0, .int km, .int rf])), (h0, .inr (3, [.ref h1, .int (nI K)])), (h1, .inl (cI, 16, .inl f)), (sc0, .inr (3, [.ref sc1, .int (nI KS)])), (sc1, .inl (cI, 16, .inl fs))] s.heap.size = A at hD ⊢
  have hA : ∀ q : Nat, s.heap.size ≤ q → A q := fun q h => by rw [← hAe]; exact Or.inr h
  have hS : va_S A s.heap s.heap [] := va_S.rf
  have hl := lv_entry ([.ref s0, .int marks]) (n := 7) (Nat.le_of_ble_eq_true rfl)
  rw [lg_entry_eq]
  generalize (lg_sl ([.ref s0, .int marks]) ++ List.replicate (7 - (lg_sl ([.ref s0, .int marks])).length) Slot.unset).toArray = ls at hl ⊢
  have hl : lv_has ls 7 [(0, .ref s0), (1, .int marks)] := hl
  obtain ⟨ρ, hρ⟩ : ∃ ρ : Nat → Int32, ρ = P_layDouble K f fs marks := ⟨_, rfl⟩
  have hr : P_layDouble K f fs marks = ρ := hρ.symm
  rewrite [P_layDouble] at hr
  refine lv_aload_n hx hb dX6_layDouble_0 rfl (lv_at hl 0 rfl) ?_
  refine va_get (D := (dC, dI)) (ci := 5) (v := .ref h0) (C := RX6) (T := TX6) (N := 10) hx hb hts (by decide +kernel) hown hK hP 0 rfl rfl 0 (by decide) (hts (.fieldLink RX6 12 "Shortring" "net" "LShortring$Net;") (by decide +kernel)) (fun _ h9 => h9) rfl dX6_layDouble_1 ?_
  refine va_getN (D := (dC, dI)) (ci := 3) (v := .int (nI K)) (C := RX3) (T := TX3) (N := 2) hx hb hts (by decide +kernel) hown hK hP 1 rfl rfl 1 (by decide) (va_Nw.use rfl (hN.2 0 _ rfl)) (fun _ h9 => h9) rfl dX6_layDouble_4 ?_
  refine lv_istore_n (lv' := [(2, .int (nI K)), (0, .ref s0), (1, .int marks)]) hx hb dX6_layDouble_7 rfl hl (by decide) rfl (fun ls hl => ?_)
  refine lv_aload_n hx hb dX6_layDouble_8 rfl (lv_at hl 1 rfl) ?_
  refine va_get (D := (dC, dI)) (ci := 5) (v := .ref sc0) (C := RX6) (T := TX6) (N := 10) hx hb hts (by decide +kernel) hown hK hP 0 rfl rfl 1 (by decide) (hts (.fieldLink RX6 16 "Shortring" "scratch" "LShortring$Net;") (by decide +kernel)) (fun _ h9 => h9) rfl dX6_layDouble_9 ?_
  refine lv_iconst (v := 2) hx hb dX6_layDouble_12 (by decide) ?_
  refine lv_iload_n hx hb dX6_layDouble_13 rfl (lv_at hl 0 rfl) ?_
  refine lv_imul hx hb dX6_layDouble_14 ?_
  refine kRen (y := nI (2 * K)) (pk_mul 2 K) ?_
  refine kCallV (wr := [(s0, .inr (5, [.ref h0, .ref sc0, .ref kp0, .ref a0, .ref q0, .ref d0, .ref c0, .ref ta0, .int km, .int rf])), (h0, .inr (3, [.ref h1, .int (nI K)])), (h1, .inl (cI, 16, .inl f))]) (va_runVN (As := [.int (nI (2 * K))]) (rest := []) ⟨hx, hb, hml, hown, hts⟩ (k_X3_lay l dC dI cI cN sc0 sc1 KS fs (2 * K) _) ⟨va_cnB 1 hts gX6_layDouble_X3_lay_n76 rfl rfl rfl (hN.1 5 _ rfl) (hts (.initialized RX3) (by decide +kernel)) (by decide +kernel) ⟨Nat.le_of_ble_eq_true rfl, Nat.le_of_ble_eq_true rfl⟩, hts (.instanceMethod yX3_lay) (by decide +kernel), hts (.selects RX3 yX3_lay yX3_lay) (by decide +kernel)⟩ (kU_V hP hK hD hN (ci := 3) (q0 := 3) rfl rfl [3, 4] rfl rfl rfl) rfl rfl hl.1 rfl (lv_room (Nat.le_of_ble_eq_true rfl)) dX6_layDouble_15 ⟨Nat.zero_le _, Nat.zero_le _⟩) hP hD hS hA [3, 4] [0, 1, 2] rfl rfl rfl rfl (by decide) rfl (fun H locs hP hD hS => ?_)
  obtain ⟨r_1, er_1⟩ : ∃ y : Nat → Int32, y = (P_lay fs) := ⟨_, rfl⟩
  try rw [← er_1] at hP hD
  have hr := bd_to hr er_1
  have hP : va_P (dC, dI) kCl [(s0, .inr (5, [.ref h0, .ref sc0, .ref kp0, .ref a0, .ref q0, .ref d0, .ref c0, .ref ta0, .int km, .int rf])), (h0, .inr (3, [.ref h1, .int (nI K)])), (h1, .inl (cI, 16, .inl f)), (sc0, .inr (3, [.ref sc1, .int (nI (2 * K))])), (sc1, .inl (cI, 16, .inl r_1))] H := hP.sub [0, 1, 2, 3, 4] rfl
  have hD : va_D A [(s0, .inr (5, [.ref h0, .ref sc0, .ref kp0, .ref a0, .ref q0, .ref d0, .ref c0, .ref ta0, .int km, .int rf])), (h0, .inr (3, [.ref h1, .int (nI K)])), (h1, .inl (cI, 16, .inl f)), (sc0, .inr (3, [.ref sc1, .int (nI (2 * K))])), (sc1, .inl (cI, 16, .inl r_1))] := hD.sub [0, 1, 2, 3, 4] (by decide) rfl
  refine lv_iconst (v := 0) hx hb dX6_layDouble_18 (by decide) ?_
  refine lv_istore_n (lv' := [(3, .int 0), (2, .int (nI K)), (0, .ref s0), (1, .int marks)]) hx hb dX6_layDouble_19 rfl hl (by decide) rfl (fun ls hl => ?_)
  refine lv_iconst (v := 0) hx hb dX6_layDouble_20 (by decide) ?_
  refine lv_istore (lv' := [(4, .int 0), (3, .int 0), (2, .int (nI K)), (0, .ref s0), (1, .int marks)]) hx hb dX6_layDouble_21 hl (by decide) rfl (fun ls hl => ?_)
  have ex_23 : ∀ (number : Int32) (fa : Nat → Int32) (H : Heap) (locs : List Loc) (ls : Array Slot), (fa) = ρ → va_P (dC, dI) kCl [(s0, .inr (5, [.ref h0, .ref sc0, .ref kp0, .ref a0, .ref q0, .ref d0, .ref c0, .ref ta0, .int km, .int rf])), (h0, .inr (3, [.ref h1, .int (nI K)])), (h1, .inl (cI, 16, .inl f)), (sc0, .inr (3, [.ref sc1, .int (nI (2 * K))])), (sc1, .inl (cI, 16, .inl fa))] H → va_D A [(s0, .inr (5, [.ref h0, .ref sc0, .ref kp0, .ref a0, .ref q0, .ref d0, .ref c0, .ref ta0, .int km, .int rf])), (h0, .inr (3, [.ref h1, .int (nI K)])), (h1, .inl (cI, 16, .inl f)), (sc0, .inr (3, [.ref sc1, .int (nI (2 * K))])), (sc1, .inl (cI, 16, .inl fa))] → va_S A s.heap H locs → lv_has ls 7 [(3, .int number), (0, .ref s0), (1, .int marks), (2, .int (nI K))] → W p l e (headSpec wsX6_layDouble rm_X6_layDouble).room s m (([.ref s0, .int marks] : List Value).toArray) below meth c H locs 0 0 (MQ below (kV dC dI [(s0, .inr (5, [.ref h0, .ref sc0, .ref kp0, .ref a0, .ref q0, .ref d0, .ref c0, .ref ta0, .int km, .int rf])), (h0, .inr (3, [.ref h1, .int (nI K)])), (h1, .inl (cI, 16, .inl f)), (sc0, .inr (3, [.ref sc1, .int (nI (2 * K))])), (sc1, .inl (cI, 16, .inl ((P_layDouble K f fs marks))))] A) (([.ref s0, .int marks] : List Value).toArray) s 0 0 A) (F0 m 125 ls []) := by
    intro number fa H locs ls hr hP hD hS hl
    have he := hr.trans hρ
    exact W.vret hx hb hr0 (fun t ht hW => kV_end (by rw [← he]; exact hP) hS ht) hS.2.2 dX6_layDouble_125
  have lp_23 : ∀ (n_23 one : Nat) (number : Int32) (fa : Nat → Int32) (H : Heap) (locs : List Loc) (ls : Array Slot), one + n_23 = K → L_layDouble_23 K f marks (fun number fa => fa) n_23 one number fa = ρ → va_P (dC, dI) kCl [(s0, .inr (5, [.ref h0, .ref sc0, .ref kp0, .ref a0, .ref q0, .ref d0, .ref c0, .ref ta0, .int km, .int rf])), (h0, .inr (3, [.ref h1, .int (nI K)])), (h1, .inl (cI, 16, .inl f)), (sc0, .inr (3, [.ref sc1, .int (nI (2 * K))])), (sc1, .inl (cI, 16, .inl fa))] H → va_D A [(s0, .inr (5, [.ref h0, .ref sc0, .ref kp0, .ref a0, .ref q0, .ref d0, .ref c0, .ref ta0, .int km, .int rf])), (h0, .inr (3, [.ref h1, .int (nI K)])), (h1, .inl (cI, 16, .inl f)), (sc0, .inr (3, [.ref sc1, .int (nI (2 * K))])), (sc1, .inl (cI, 16, .inl fa))] → va_S A s.heap H locs → lv_has ls 7 [(4, .int (nI one)), (3, .int number), (0, .ref s0), (1, .int marks), (2, .int (nI K))] → W p l e (headSpec wsX6_layDouble rm_X6_layDouble).room s m (([.ref s0, .int marks] : List Value).toArray) below meth c H locs 0 0 (MQ below (kV dC dI [(s0, .inr (5, [.ref h0, .ref sc0, .ref kp0, .ref a0, .ref q0, .ref d0, .ref c0, .ref ta0, .int km, .int rf])), (h0, .inr (3, [.ref h1, .int (nI K)])), (h1, .inl (cI, 16, .inl f)), (sc0, .inr (3, [.ref sc1, .int (nI (2 * K))])), (sc1, .inl (cI, 16, .inl ((P_layDouble K f fs marks))))] A) (([.ref s0, .int marks] : List Value).toArray) s 0 0 A) (F0 m 23 ls []) := by
    intro n_23
    induction n_23 with
    | zero =>
      intro one number fa H locs ls hi hr hP hD hS hl
      rewrite [L_layDouble_23] at hr
      refine lv_iload hx hb dX6_layDouble_23 (lv_at hl 0 rfl) ?_
      refine lv_iload_n hx hb dX6_layDouble_25 rfl (lv_at hl 4 rfl) ?_
      refine lv_icmp_ge (tgt := 125) hx hb dX6_layDouble_26 (by decide) (fun c_2 => ?_) (fun c_2 => ?_)
      · exact ex_23 number fa _ _ _ hr hP hD hS (lv_sub hl [1, 2, 3, 4] rfl)
      · exact absurd (kTop (i := one) (N := K) rfl (by omega)) c_2
    | succ n_23 ih_23 =>
      intro one number fa H locs ls hi hr hP hD hS hl
      rewrite [L_layDouble_23] at hr
      refine lv_iload hx hb dX6_layDouble_23 (lv_at hl 0 rfl) ?_
      refine lv_iload_n hx hb dX6_layDouble_25 rfl (lv_at hl 4 rfl) ?_
      refine lv_icmp_ge (tgt := 125) hx hb dX6_layDouble_26 (by decide) (fun c_3 => ?_) (fun c_3 => ?_)
      · exact absurd c_3 (kLow (i := one) (N := K) rfl (by omega) (by omega))
      · refine lv_iload hx hb dX6_layDouble_29 (lv_at hl 0 rfl) ?_
        refine lv_iconst (v := 1) hx hb dX6_layDouble_31 (by decide) ?_
        refine lv_iadd hx hb dX6_layDouble_32 ?_
        refine kRen (y := nI (one + 1)) (nI_1 _) ?_
        refine lv_istore (lv' := [(5, .int (nI (one + 1))), (4, .int (nI one)), (3, .int number), (0, .ref s0), (1, .int marks), (2, .int (nI K))]) hx hb dX6_layDouble_33 hl (by decide) rfl (fun ls hl => ?_)
        have ex_35 : ∀ (number : Int32) (fb : Nat → Int32) (H : Heap) (locs : List Loc) (ls : Array Slot), (L_layDouble_23 K f marks (fun number fa => fa) n_23 (one + 1) number fb) = ρ → va_P (dC, dI) kCl [(s0, .inr (5, [.ref h0, .ref sc0, .ref kp0, .ref a0, .ref q0, .ref d0, .ref c0, .ref ta0, .int km, .int rf])), (h0, .inr (3, [.ref h1, .int (nI K)])), (h1, .inl (cI, 16, .inl f)), (sc0, .inr (3, [.ref sc1, .int (nI (2 * K))])), (sc1, .inl (cI, 16, .inl fb))] H → va_D A [(s0, .inr (5, [.ref h0, .ref sc0, .ref kp0, .ref a0, .ref q0, .ref d0, .ref c0, .ref ta0, .int km, .int rf])), (h0, .inr (3, [.ref h1, .int (nI K)])), (h1, .inl (cI, 16, .inl f)), (sc0, .inr (3, [.ref sc1, .int (nI (2 * K))])), (sc1, .inl (cI, 16, .inl fb))] → va_S A s.heap H locs → lv_has ls 7 [(3, .int number), (0, .ref s0), (1, .int marks), (2, .int (nI K)), (4, .int (nI one))] → W p l e (headSpec wsX6_layDouble rm_X6_layDouble).room s m (([.ref s0, .int marks] : List Value).toArray) below meth c H locs 0 0 (MQ below (kV dC dI [(s0, .inr (5, [.ref h0, .ref sc0, .ref kp0, .ref a0, .ref q0, .ref d0, .ref c0, .ref ta0, .int km, .int rf])), (h0, .inr (3, [.ref h1, .int (nI K)])), (h1, .inl (cI, 16, .inl f)), (sc0, .inr (3, [.ref sc1, .int (nI (2 * K))])), (sc1, .inl (cI, 16, .inl ((P_layDouble K f fs marks))))] A) (([.ref s0, .int marks] : List Value).toArray) s 0 0 A) (F0 m 119 ls []) := by
          intro number fb H locs ls hr hP hD hS hl
          refine lv_iinc (v := nI (one + 1)) (lv' := [(4, .int (nI (one + 1))), (3, .int number), (0, .ref s0), (1, .int marks), (2, .int (nI K))]) hx hb dX6_layDouble_119 hl (k := 4) rfl (nI_1 _) (by decide) rfl (fun ls hl => ?_)
          refine lv_goto (tgt := 23) hx hb dX6_layDouble_122 (by decide) ?_
          exact ih_23 (one + 1) number fb _ _ _ (by omega) hr hP hD hS (lv_sub hl [0, 1, 2, 3, 4] rfl)
        have lp_35 : ∀ (n_35 other : Nat) (number : Int32) (fb : Nat → Int32) (H : Heap) (locs : List Loc) (ls : Array Slot), other + n_35 = K → L_layDouble_35 K f marks one (fun number fb => L_layDouble_23 K f marks (fun number fa => fa) n_23 (one + 1) number fb) n_35 other number fb = ρ → va_P (dC, dI) kCl [(s0, .inr (5, [.ref h0, .ref sc0, .ref kp0, .ref a0, .ref q0, .ref d0, .ref c0, .ref ta0, .int km, .int rf])), (h0, .inr (3, [.ref h1, .int (nI K)])), (h1, .inl (cI, 16, .inl f)), (sc0, .inr (3, [.ref sc1, .int (nI (2 * K))])), (sc1, .inl (cI, 16, .inl fb))] H → va_D A [(s0, .inr (5, [.ref h0, .ref sc0, .ref kp0, .ref a0, .ref q0, .ref d0, .ref c0, .ref ta0, .int km, .int rf])), (h0, .inr (3, [.ref h1, .int (nI K)])), (h1, .inl (cI, 16, .inl f)), (sc0, .inr (3, [.ref sc1, .int (nI (2 * K))])), (sc1, .inl (cI, 16, .inl fb))] → va_S A s.heap H locs → lv_has ls 7 [(5, .int (nI other)), (3, .int number), (0, .ref s0), (1, .int marks), (2, .int (nI K)), (4, .int (nI one))] → W p l e (headSpec wsX6_layDouble rm_X6_layDouble).room s m (([.ref s0, .int marks] : List Value).toArray) below meth c H locs 0 0 (MQ below (kV dC dI [(s0, .inr (5, [.ref h0, .ref sc0, .ref kp0, .ref a0, .ref q0, .ref d0, .ref c0, .ref ta0, .int km, .int rf])), (h0, .inr (3, [.ref h1, .int (nI K)])), (h1, .inl (cI, 16, .inl f)), (sc0, .inr (3, [.ref sc1, .int (nI (2 * K))])), (sc1, .inl (cI, 16, .inl ((P_layDouble K f fs marks))))] A) (([.ref s0, .int marks] : List Value).toArray) s 0 0 A) (F0 m 35 ls []) := by
          intro n_35
          induction n_35 with
          | zero =>
            intro other number fb H locs ls hi hr hP hD hS hl
            rewrite [L_layDouble_35] at hr
            refine lv_iload hx hb dX6_layDouble_35 (lv_at hl 0 rfl) ?_
            refine lv_iload_n hx hb dX6_layDouble_37 rfl (lv_at hl 4 rfl) ?_
            refine lv_icmp_ge (tgt := 119) hx hb dX6_layDouble_38 (by decide) (fun c_4 => ?_) (fun c_4 => ?_)
            · exact ex_35 number fb _ _ _ hr hP hD hS (lv_sub hl [1, 2, 3, 4, 5] rfl)
            · exact absurd (kTop (i := other) (N := K) rfl (by omega)) c_4
          | succ n_35 ih_35 =>
            intro other number fb H locs ls hi hr hP hD hS hl
            rewrite [L_layDouble_35] at hr
            refine lv_iload hx hb dX6_layDouble_35 (lv_at hl 0 rfl) ?_
            refine lv_iload_n hx hb dX6_layDouble_37 rfl (lv_at hl 4 rfl) ?_
            refine lv_icmp_ge (tgt := 119) hx hb dX6_layDouble_38 (by decide) (fun c_5 => ?_) (fun c_5 => ?_)
            · exact absurd c_5 (kLow (i := other) (N := K) rfl (by omega) (by omega))
            · refine lv_aload_n hx hb dX6_layDouble_41 rfl (lv_at hl 2 rfl) ?_
              refine va_get (D := (dC, dI)) (ci := 5) (v := .ref h0) (C := RX6) (T := TX6) (N := 10) hx hb hts (by decide +kernel) hown hK hP 0 rfl rfl 0 (by decide) (hts (.fieldLink RX6 12 "Shortring" "net" "LShortring$Net;") (by decide +kernel)) (fun _ h9 => h9) rfl dX6_layDouble_42 ?_
              refine lv_iload hx hb dX6_layDouble_45 (lv_at hl 5 rfl) ?_
              refine lv_iload hx hb dX6_layDouble_47 (lv_at hl 0 rfl) ?_
              refine kCall (va_runVN (As := [.int (nI one), .int (nI other)]) (rest := []) ⟨hx, hb, hml, hown, hts⟩ (k_X3_isNear l dC dI cI cN h0 h1 K f (nI one) (nI other) (by first | assumption | omega | exact Int32.le_refl _ | decide)) ⟨va_cnB 2 hts gX6_layDouble_X3_isNear_n98 rfl rfl rfl (hN.1 9 _ rfl) (hts (.initialized RX3) (by decide +kernel)) (by decide +kernel) ⟨Nat.le_of_ble_eq_true rfl, Nat.le_of_ble_eq_true rfl⟩, hts (.instanceMethod yX3_isNear) (by decide +kernel), hts (.selects RX3 yX3_isNear yX3_isNear) (by decide +kernel)⟩ (kW_V hP hK hD hN (ci := 3) (q0 := 1) rfl rfl [1, 2] rfl rfl rfl) rfl rfl hl.1 rfl (lv_room (Nat.le_of_ble_eq_true rfl)) dX6_layDouble_49 ⟨Nat.zero_le _, Nat.zero_le _⟩) hP hS (fun H locs hP hS => ?_)
              refine lv_if_eq (tgt := 113) hx hb dX6_layDouble_52 (by decide) (fun c_6 => ?_) (fun c_6 => ?_)
              · have hr := if_to hr c_6
                refine lv_iinc (v := nI (other + 1)) (lv' := [(5, .int (nI (other + 1))), (3, .int number), (0, .ref s0), (1, .int marks), (2, .int (nI K)), (4, .int (nI one))]) hx hb dX6_layDouble_113 hl (k := 0) rfl (nI_1 _) (by decide) rfl (fun ls hl => ?_)
                refine lv_goto (tgt := 35) hx hb dX6_layDouble_116 (by decide) ?_
                exact ih_35 (other + 1) number fb _ _ _ (by omega) hr hP hD hS (lv_sub hl [0, 1, 2, 3, 4, 5] rfl)
              · have hr := if_no hr c_6
                refine lv_iload_n hx hb dX6_layDouble_55 rfl (lv_at hl 3 rfl) ?_
                refine lv_iload_n hx hb dX6_layDouble_56 rfl (lv_at hl 1 rfl) ?_
                refine kCall (va_runS (As := [.int marks, .int number]) (rest := []) ⟨hx, hb, hml, hown, hts⟩ (k_X6_holds l dC dI cI cN marks number) (va_cwS 2 hts gX6_layDouble_X6_holds rfl rfl rfl (by decide +kernel) ⟨Nat.le_of_ble_eq_true rfl, Nat.le_of_ble_eq_true rfl⟩) (kW_S hP hK hD hN [] rfl rfl rfl) rfl rfl hl.1 rfl (lv_room (Nat.le_of_ble_eq_true rfl)) dX6_layDouble_57 ⟨Nat.zero_le _, Nat.zero_le _⟩) hP hS (fun H locs hP hS => ?_)
                refine lv_topi (fun isMarked_7 eisMarked_7 => ?_)
                have hr := bd_to hr eisMarked_7
                refine lv_istore (lv' := [(6, .int isMarked_7), (5, .int (nI other)), (3, .int number), (0, .ref s0), (1, .int marks), (2, .int (nI K)), (4, .int (nI one))]) hx hb dX6_layDouble_60 hl (by decide) rfl (fun ls hl => ?_)
                refine lv_aload_n hx hb dX6_layDouble_62 rfl (lv_at hl 3 rfl) ?_
                refine va_get (D := (dC, dI)) (ci := 5) (v := .ref sc0) (C := RX6) (T := TX6) (N := 10) hx hb hts (by decide +kernel) hown hK hP 0 rfl rfl 1 (by decide) (hts (.fieldLink RX6 16 "Shortring" "scratch" "LShortring$Net;") (by decide +kernel)) (fun _ h9 => h9) rfl dX6_layDouble_63 ?_
                refine lv_iload hx hb dX6_layDouble_66 (lv_at hl 6 rfl) ?_
                refine lv_iload hx hb dX6_layDouble_68 (lv_at hl 0 rfl) ?_
                refine lv_if_eq (tgt := 80) hx hb dX6_layDouble_70 (by decide) (fun c_8 => ?_) (fun c_8 => ?_)
                · have hr := if_to hr c_8
                  refine lv_iload hx hb dX6_layDouble_80 (lv_at hl 1 rfl) ?_
                  refine kCallV (wr := [(s0, .inr (5, [.ref h0, .ref sc0, .ref kp0, .ref a0, .ref q0, .ref d0, .ref c0, .ref ta0, .int km, .int rf])), (h0, .inr (3, [.ref h1, .int (nI K)])), (h1, .inl (cI, 16, .inl f))]) (va_runVN (As := [.int (nI one), .int (nI other)]) (rest := []) ⟨hx, hb, hml, hown, hts⟩ (k_X3_join l dC dI cI cN sc0 sc1 (2 * K) fb (nI one) (nI other) (by first | assumption | omega | exact Int32.le_refl _ | decide) _) ⟨va_cnB 2 hts gX6_layDouble_X3_join_n111 rfl rfl rfl (hN.1 11 _ rfl) (hts (.initialized RX3) (by decide +kernel)) (by decide +kernel) ⟨Nat.le_of_ble_eq_true rfl, Nat.le_of_ble_eq_true rfl⟩, hts (.instanceMethod yX3_join) (by decide +kernel), hts (.selects RX3 yX3_join yX3_join) (by decide +kernel)⟩ (kU_V hP hK hD hN (ci := 3) (q0 := 3) rfl rfl [3, 4] rfl rfl rfl) rfl rfl hl.1 rfl (lv_room (Nat.le_of_ble_eq_true rfl)) dX6_layDouble_82 ⟨Nat.zero_le _, Nat.zero_le _⟩) hP hD hS hA [3, 4] [0, 1, 2] rfl rfl rfl rfl (by decide) rfl (fun H locs hP hD hS => ?_)
                  obtain ⟨r_9, er_9⟩ : ∃ y : Nat → Int32, y = (P_join (2 * K) fb (nI one) (nI other)) := ⟨_, rfl⟩
                  try rw [← er_9] at hP hD
                  have hr := bd_to hr er_9
                  have hP : va_P (dC, dI) kCl [(s0, .inr (5, [.ref h0, .ref sc0, .ref kp0, .ref a0, .ref q0, .ref d0, .ref c0, .ref ta0, .int km, .int rf])), (h0, .inr (3, [.ref h1, .int (nI K)])), (h1, .inl (cI, 16, .inl f)), (sc0, .inr (3, [.ref sc1, .int (nI (2 * K))])), (sc1, .inl (cI, 16, .inl r_9))] H := hP.sub [0, 1, 2, 3, 4] rfl
                  have hD : va_D A [(s0, .inr (5, [.ref h0, .ref sc0, .ref kp0, .ref a0, .ref q0, .ref d0, .ref c0, .ref ta0, .int km, .int rf])), (h0, .inr (3, [.ref h1, .int (nI K)])), (h1, .inl (cI, 16, .inl f)), (sc0, .inr (3, [.ref sc1, .int (nI (2 * K))])), (sc1, .inl (cI, 16, .inl r_9))] := hD.sub [0, 1, 2, 3, 4] (by decide) rfl
                  refine lv_aload_n hx hb dX6_layDouble_85 rfl (lv_at hl 3 rfl) ?_
                  refine va_get (D := (dC, dI)) (ci := 5) (v := .ref sc0) (C := RX6) (T := TX6) (N := 10) hx hb hts (by decide +kernel) hown hK hP 0 rfl rfl 1 (by decide) (hts (.fieldLink RX6 16 "Shortring" "scratch" "LShortring$Net;") (by decide +kernel)) (fun _ h9 => h9) rfl dX6_layDouble_86 ?_
                  refine lv_iload hx hb dX6_layDouble_89 (lv_at hl 6 rfl) ?_
                  refine lv_iload_n hx hb dX6_layDouble_91 rfl (lv_at hl 5 rfl) ?_
                  refine lv_iadd hx hb dX6_layDouble_92 ?_
                  refine lv_iload hx hb dX6_layDouble_93 (lv_at hl 0 rfl) ?_
                  refine lv_if_eq (tgt := 103) hx hb dX6_layDouble_95 (by decide) (fun c_10 => ?_) (fun c_10 => ?_)
                  · have hr := if_to hr c_10
                    refine lv_iload hx hb dX6_layDouble_103 (lv_at hl 1 rfl) ?_
                    refine lv_iload_n hx hb dX6_layDouble_105 rfl (lv_at hl 5 rfl) ?_
                    refine lv_iadd hx hb dX6_layDouble_106 ?_
                    refine kCallV (wr := [(s0, .inr (5, [.ref h0, .ref sc0, .ref kp0, .ref a0, .ref q0, .ref d0, .ref c0, .ref ta0, .int km, .int rf])), (h0, .inr (3, [.ref h1, .int (nI K)])), (h1, .inl (cI, 16, .inl f))]) (va_runVN (As := [.int ((nI one) + (nI K)), .int ((nI other) + (nI K))]) (rest := []) ⟨hx, hb, hml, hown, hts⟩ (k_X3_join l dC dI cI cN sc0 sc1 (2 * K) r_9 ((nI one) + (nI K)) ((nI other) + (nI K)) (by first | assumption | omega | exact Int32.le_refl _ | decide) _) ⟨va_cnB 2 hts gX6_layDouble_X3_join_n111 rfl rfl rfl (hN.1 11 _ rfl) (hts (.initialized RX3) (by decide +kernel)) (by decide +kernel) ⟨Nat.le_of_ble_eq_true rfl, Nat.le_of_ble_eq_true rfl⟩, hts (.instanceMethod yX3_join) (by decide +kernel), hts (.selects RX3 yX3_join yX3_join) (by decide +kernel)⟩ (kU_V hP hK hD hN (ci := 3) (q0 := 3) rfl rfl [3, 4] rfl rfl rfl) rfl rfl hl.1 rfl (lv_room (Nat.le_of_ble_eq_true rfl)) dX6_layDouble_107 ⟨Nat.zero_le _, Nat.zero_le _⟩) hP hD hS hA [3, 4] [0, 1, 2] rfl rfl rfl rfl (by decide) rfl (fun H locs hP hD hS => ?_)
                    obtain ⟨r_11, er_11⟩ : ∃ y : Nat → Int32, y = (P_join (2 * K) r_9 ((nI one) + (nI K)) ((nI other) + (nI K))) := ⟨_, rfl⟩
                    try rw [← er_11] at hP hD
                    have hr := bd_to hr er_11
                    have hP : va_P (dC, dI) kCl [(s0, .inr (5, [.ref h0, .ref sc0, .ref kp0, .ref a0, .ref q0, .ref d0, .ref c0, .ref ta0, .int km, .int rf])), (h0, .inr (3, [.ref h1, .int (nI K)])), (h1, .inl (cI, 16, .inl f)), (sc0, .inr (3, [.ref sc1, .int (nI (2 * K))])), (sc1, .inl (cI, 16, .inl r_11))] H := hP.sub [0, 1, 2, 3, 4] rfl
                    have hD : va_D A [(s0, .inr (5, [.ref h0, .ref sc0, .ref kp0, .ref a0, .ref q0, .ref d0, .ref c0, .ref ta0, .int km, .int rf])), (h0, .inr (3, [.ref h1, .int (nI K)])), (h1, .inl (cI, 16, .inl f)), (sc0, .inr (3, [.ref sc1, .int (nI (2 * K))])), (sc1, .inl (cI, 16, .inl r_11))] := hD.sub [0, 1, 2, 3, 4] (by decide) rfl
                    refine lv_iinc (v := number + 1) (lv' := [(3, .int (number + 1)), (6, .int isMarked_7), (5, .int (nI other)), (0, .ref s0), (1, .int marks), (2, .int (nI K)), (4, .int (nI one))]) hx hb dX6_layDouble_110 hl (k := 2) rfl rfl (by decide) rfl (fun ls hl => ?_)
                    refine lv_iinc (v := nI (other + 1)) (lv' := [(5, .int (nI (other + 1))), (3, .int (number + 1)), (6, .int isMarked_7), (0, .ref s0), (1, .int marks), (2, .int (nI K)), (4, .int (nI one))]) hx hb dX6_layDouble_113 hl (k := 2) rfl (nI_1 _) (by decide) rfl (fun ls hl => ?_)
                    refine lv_goto (tgt := 35) hx hb dX6_layDouble_116 (by decide) ?_
                    exact ih_35 (other + 1) (number + 1) r_11 _ _ _ (by omega) hr hP hD hS (lv_sub hl [0, 1, 3, 4, 5, 6] rfl)
                  · have hr := if_no hr c_10
                    refine lv_iload hx hb dX6_layDouble_98 (lv_at hl 1 rfl) ?_
                    refine lv_goto (tgt := 107) hx hb dX6_layDouble_100 (by decide) ?_
                    refine kCallV (wr := [(s0, .inr (5, [.ref h0, .ref sc0, .ref kp0, .ref a0, .ref q0, .ref d0, .ref c0, .ref ta0, .int km, .int rf])), (h0, .inr (3, [.ref h1, .int (nI K)])), (h1, .inl (cI, 16, .inl f))]) (va_runVN (As := [.int ((nI one) + (nI K)), .int (nI other)]) (rest := []) ⟨hx, hb, hml, hown, hts⟩ (k_X3_join l dC dI cI cN sc0 sc1 (2 * K) r_9 ((nI one) + (nI K)) (nI other) (by first | assumption | omega | exact Int32.le_refl _ | decide) _) ⟨va_cnB 2 hts gX6_layDouble_X3_join_n111 rfl rfl rfl (hN.1 11 _ rfl) (hts (.initialized RX3) (by decide +kernel)) (by decide +kernel) ⟨Nat.le_of_ble_eq_true rfl, Nat.le_of_ble_eq_true rfl⟩, hts (.instanceMethod yX3_join) (by decide +kernel), hts (.selects RX3 yX3_join yX3_join) (by decide +kernel)⟩ (kU_V hP hK hD hN (ci := 3) (q0 := 3) rfl rfl [3, 4] rfl rfl rfl) rfl rfl hl.1 rfl (lv_room (Nat.le_of_ble_eq_true rfl)) dX6_layDouble_107 ⟨Nat.zero_le _, Nat.zero_le _⟩) hP hD hS hA [3, 4] [0, 1, 2] rfl rfl rfl rfl (by decide) rfl (fun H locs hP hD hS => ?_)
                    obtain ⟨r_12, er_12⟩ : ∃ y : Nat → Int32, y = (P_join (2 * K) r_9 ((nI one) + (nI K)) (nI other)) := ⟨_, rfl⟩
                    try rw [← er_12] at hP hD
                    have hr := bd_to hr er_12
                    have hP : va_P (dC, dI) kCl [(s0, .inr (5, [.ref h0, .ref sc0, .ref kp0, .ref a0, .ref q0, .ref d0, .ref c0, .ref ta0, .int km, .int rf])), (h0, .inr (3, [.ref h1, .int (nI K)])), (h1, .inl (cI, 16, .inl f)), (sc0, .inr (3, [.ref sc1, .int (nI (2 * K))])), (sc1, .inl (cI, 16, .inl r_12))] H := hP.sub [0, 1, 2, 3, 4] rfl
                    have hD : va_D A [(s0, .inr (5, [.ref h0, .ref sc0, .ref kp0, .ref a0, .ref q0, .ref d0, .ref c0, .ref ta0, .int km, .int rf])), (h0, .inr (3, [.ref h1, .int (nI K)])), (h1, .inl (cI, 16, .inl f)), (sc0, .inr (3, [.ref sc1, .int (nI (2 * K))])), (sc1, .inl (cI, 16, .inl r_12))] := hD.sub [0, 1, 2, 3, 4] (by decide) rfl
                    refine lv_iinc (v := number + 1) (lv' := [(3, .int (number + 1)), (6, .int isMarked_7), (5, .int (nI other)), (0, .ref s0), (1, .int marks), (2, .int (nI K)), (4, .int (nI one))]) hx hb dX6_layDouble_110 hl (k := 2) rfl rfl (by decide) rfl (fun ls hl => ?_)
                    refine lv_iinc (v := nI (other + 1)) (lv' := [(5, .int (nI (other + 1))), (3, .int (number + 1)), (6, .int isMarked_7), (0, .ref s0), (1, .int marks), (2, .int (nI K)), (4, .int (nI one))]) hx hb dX6_layDouble_113 hl (k := 2) rfl (nI_1 _) (by decide) rfl (fun ls hl => ?_)
                    refine lv_goto (tgt := 35) hx hb dX6_layDouble_116 (by decide) ?_
                    exact ih_35 (other + 1) (number + 1) r_12 _ _ _ (by omega) hr hP hD hS (lv_sub hl [0, 1, 3, 4, 5, 6] rfl)
                · have hr := if_no hr c_8
                  refine lv_iload hx hb dX6_layDouble_73 (lv_at hl 1 rfl) ?_
                  refine lv_iload_n hx hb dX6_layDouble_75 rfl (lv_at hl 5 rfl) ?_
                  refine lv_iadd hx hb dX6_layDouble_76 ?_
                  refine lv_goto (tgt := 82) hx hb dX6_layDouble_77 (by decide) ?_
                  refine kCallV (wr := [(s0, .inr (5, [.ref h0, .ref sc0, .ref kp0, .ref a0, .ref q0, .ref d0, .ref c0, .ref ta0, .int km, .int rf])), (h0, .inr (3, [.ref h1, .int (nI K)])), (h1, .inl (cI, 16, .inl f))]) (va_runVN (As := [.int (nI one), .int ((nI other) + (nI K))]) (rest := []) ⟨hx, hb, hml, hown, hts⟩ (k_X3_join l dC dI cI cN sc0 sc1 (2 * K) fb (nI one) ((nI other) + (nI K)) (by first | assumption | omega | exact Int32.le_refl _ | decide) _) ⟨va_cnB 2 hts gX6_layDouble_X3_join_n111 rfl rfl rfl (hN.1 11 _ rfl) (hts (.initialized RX3) (by decide +kernel)) (by decide +kernel) ⟨Nat.le_of_ble_eq_true rfl, Nat.le_of_ble_eq_true rfl⟩, hts (.instanceMethod yX3_join) (by decide +kernel), hts (.selects RX3 yX3_join yX3_join) (by decide +kernel)⟩ (kU_V hP hK hD hN (ci := 3) (q0 := 3) rfl rfl [3, 4] rfl rfl rfl) rfl rfl hl.1 rfl (lv_room (Nat.le_of_ble_eq_true rfl)) dX6_layDouble_82 ⟨Nat.zero_le _, Nat.zero_le _⟩) hP hD hS hA [3, 4] [0, 1, 2] rfl rfl rfl rfl (by decide) rfl (fun H locs hP hD hS => ?_)
                  obtain ⟨r_13, er_13⟩ : ∃ y : Nat → Int32, y = (P_join (2 * K) fb (nI one) ((nI other) + (nI K))) := ⟨_, rfl⟩
                  try rw [← er_13] at hP hD
                  have hr := bd_to hr er_13
                  have hP : va_P (dC, dI) kCl [(s0, .inr (5, [.ref h0, .ref sc0, .ref kp0, .ref a0, .ref q0, .ref d0, .ref c0, .ref ta0, .int km, .int rf])), (h0, .inr (3, [.ref h1, .int (nI K)])), (h1, .inl (cI, 16, .inl f)), (sc0, .inr (3, [.ref sc1, .int (nI (2 * K))])), (sc1, .inl (cI, 16, .inl r_13))] H := hP.sub [0, 1, 2, 3, 4] rfl
                  have hD : va_D A [(s0, .inr (5, [.ref h0, .ref sc0, .ref kp0, .ref a0, .ref q0, .ref d0, .ref c0, .ref ta0, .int km, .int rf])), (h0, .inr (3, [.ref h1, .int (nI K)])), (h1, .inl (cI, 16, .inl f)), (sc0, .inr (3, [.ref sc1, .int (nI (2 * K))])), (sc1, .inl (cI, 16, .inl r_13))] := hD.sub [0, 1, 2, 3, 4] (by decide) rfl
                  refine lv_aload_n hx hb dX6_layDouble_85 rfl (lv_at hl 3 rfl) ?_
                  refine va_get (D := (dC, dI)) (ci := 5) (v := .ref sc0) (C := RX6) (T := TX6) (N := 10) hx hb hts (by decide +kernel) hown hK hP 0 rfl rfl 1 (by decide) (hts (.fieldLink RX6 16 "Shortring" "scratch" "LShortring$Net;") (by decide +kernel)) (fun _ h9 => h9) rfl dX6_layDouble_86 ?_
                  refine lv_iload hx hb dX6_layDouble_89 (lv_at hl 6 rfl) ?_
                  refine lv_iload_n hx hb dX6_layDouble_91 rfl (lv_at hl 5 rfl) ?_
                  refine lv_iadd hx hb dX6_layDouble_92 ?_
                  refine lv_iload hx hb dX6_layDouble_93 (lv_at hl 0 rfl) ?_
                  refine lv_if_eq (tgt := 103) hx hb dX6_layDouble_95 (by decide) (fun c_14 => ?_) (fun c_14 => ?_)
                  · have hr := if_to hr c_14
                    refine lv_iload hx hb dX6_layDouble_103 (lv_at hl 1 rfl) ?_
                    refine lv_iload_n hx hb dX6_layDouble_105 rfl (lv_at hl 5 rfl) ?_
                    refine lv_iadd hx hb dX6_layDouble_106 ?_
                    refine kCallV (wr := [(s0, .inr (5, [.ref h0, .ref sc0, .ref kp0, .ref a0, .ref q0, .ref d0, .ref c0, .ref ta0, .int km, .int rf])), (h0, .inr (3, [.ref h1, .int (nI K)])), (h1, .inl (cI, 16, .inl f))]) (va_runVN (As := [.int ((nI one) + (nI K)), .int ((nI other) + (nI K))]) (rest := []) ⟨hx, hb, hml, hown, hts⟩ (k_X3_join l dC dI cI cN sc0 sc1 (2 * K) r_13 ((nI one) + (nI K)) ((nI other) + (nI K)) (by first | assumption | omega | exact Int32.le_refl _ | decide) _) ⟨va_cnB 2 hts gX6_layDouble_X3_join_n111 rfl rfl rfl (hN.1 11 _ rfl) (hts (.initialized RX3) (by decide +kernel)) (by decide +kernel) ⟨Nat.le_of_ble_eq_true rfl, Nat.le_of_ble_eq_true rfl⟩, hts (.instanceMethod yX3_join) (by decide +kernel), hts (.selects RX3 yX3_join yX3_join) (by decide +kernel)⟩ (kU_V hP hK hD hN (ci := 3) (q0 := 3) rfl rfl [3, 4] rfl rfl rfl) rfl rfl hl.1 rfl (lv_room (Nat.le_of_ble_eq_true rfl)) dX6_layDouble_107 ⟨Nat.zero_le _, Nat.zero_le _⟩) hP hD hS hA [3, 4] [0, 1, 2] rfl rfl rfl rfl (by decide) rfl (fun H locs hP hD hS => ?_)
                    obtain ⟨r_15, er_15⟩ : ∃ y : Nat → Int32, y = (P_join (2 * K) r_13 ((nI one) + (nI K)) ((nI other) + (nI K))) := ⟨_, rfl⟩
                    try rw [← er_15] at hP hD
                    have hr := bd_to hr er_15
                    have hP : va_P (dC, dI) kCl [(s0, .inr (5, [.ref h0, .ref sc0, .ref kp0, .ref a0, .ref q0, .ref d0, .ref c0, .ref ta0, .int km, .int rf])), (h0, .inr (3, [.ref h1, .int (nI K)])), (h1, .inl (cI, 16, .inl f)), (sc0, .inr (3, [.ref sc1, .int (nI (2 * K))])), (sc1, .inl (cI, 16, .inl r_15))] H := hP.sub [0, 1, 2, 3, 4] rfl
                    have hD : va_D A [(s0, .inr (5, [.ref h0, .ref sc0, .ref kp0, .ref a0, .ref q0, .ref d0, .ref c0, .ref ta0, .int km, .int rf])), (h0, .inr (3, [.ref h1, .int (nI K)])), (h1, .inl (cI, 16, .inl f)), (sc0, .inr (3, [.ref sc1, .int (nI (2 * K))])), (sc1, .inl (cI, 16, .inl r_15))] := hD.sub [0, 1, 2, 3, 4] (by decide) rfl
                    refine lv_iinc (v := number + 1) (lv' := [(3, .int (number + 1)), (6, .int isMarked_7), (5, .int (nI other)), (0, .ref s0), (1, .int marks), (2, .int (nI K)), (4, .int (nI one))]) hx hb dX6_layDouble_110 hl (k := 2) rfl rfl (by decide) rfl (fun ls hl => ?_)
                    refine lv_iinc (v := nI (other + 1)) (lv' := [(5, .int (nI (other + 1))), (3, .int (number + 1)), (6, .int isMarked_7), (0, .ref s0), (1, .int marks), (2, .int (nI K)), (4, .int (nI one))]) hx hb dX6_layDouble_113 hl (k := 2) rfl (nI_1 _) (by decide) rfl (fun ls hl => ?_)
                    refine lv_goto (tgt := 35) hx hb dX6_layDouble_116 (by decide) ?_
                    exact ih_35 (other + 1) (number + 1) r_15 _ _ _ (by omega) hr hP hD hS (lv_sub hl [0, 1, 3, 4, 5, 6] rfl)
                  · have hr := if_no hr c_14
                    refine lv_iload hx hb dX6_layDouble_98 (lv_at hl 1 rfl) ?_
                    refine lv_goto (tgt := 107) hx hb dX6_layDouble_100 (by decide) ?_
                    refine kCallV (wr := [(s0, .inr (5, [.ref h0, .ref sc0, .ref kp0, .ref a0, .ref q0, .ref d0, .ref c0, .ref ta0, .int km, .int rf])), (h0, .inr (3, [.ref h1, .int (nI K)])), (h1, .inl (cI, 16, .inl f))]) (va_runVN (As := [.int ((nI one) + (nI K)), .int (nI other)]) (rest := []) ⟨hx, hb, hml, hown, hts⟩ (k_X3_join l dC dI cI cN sc0 sc1 (2 * K) r_13 ((nI one) + (nI K)) (nI other) (by first | assumption | omega | exact Int32.le_refl _ | decide) _) ⟨va_cnB 2 hts gX6_layDouble_X3_join_n111 rfl rfl rfl (hN.1 11 _ rfl) (hts (.initialized RX3) (by decide +kernel)) (by decide +kernel) ⟨Nat.le_of_ble_eq_true rfl, Nat.le_of_ble_eq_true rfl⟩, hts (.instanceMethod yX3_join) (by decide +kernel), hts (.selects RX3 yX3_join yX3_join) (by decide +kernel)⟩ (kU_V hP hK hD hN (ci := 3) (q0 := 3) rfl rfl [3, 4] rfl rfl rfl) rfl rfl hl.1 rfl (lv_room (Nat.le_of_ble_eq_true rfl)) dX6_layDouble_107 ⟨Nat.zero_le _, Nat.zero_le _⟩) hP hD hS hA [3, 4] [0, 1, 2] rfl rfl rfl rfl (by decide) rfl (fun H locs hP hD hS => ?_)
                    obtain ⟨r_16, er_16⟩ : ∃ y : Nat → Int32, y = (P_join (2 * K) r_13 ((nI one) + (nI K)) (nI other)) := ⟨_, rfl⟩
                    try rw [← er_16] at hP hD
                    have hr := bd_to hr er_16
                    have hP : va_P (dC, dI) kCl [(s0, .inr (5, [.ref h0, .ref sc0, .ref kp0, .ref a0, .ref q0, .ref d0, .ref c0, .ref ta0, .int km, .int rf])), (h0, .inr (3, [.ref h1, .int (nI K)])), (h1, .inl (cI, 16, .inl f)), (sc0, .inr (3, [.ref sc1, .int (nI (2 * K))])), (sc1, .inl (cI, 16, .inl r_16))] H := hP.sub [0, 1, 2, 3, 4] rfl
                    have hD : va_D A [(s0, .inr (5, [.ref h0, .ref sc0, .ref kp0, .ref a0, .ref q0, .ref d0, .ref c0, .ref ta0, .int km, .int rf])), (h0, .inr (3, [.ref h1, .int (nI K)])), (h1, .inl (cI, 16, .inl f)), (sc0, .inr (3, [.ref sc1, .int (nI (2 * K))])), (sc1, .inl (cI, 16, .inl r_16))] := hD.sub [0, 1, 2, 3, 4] (by decide) rfl
                    refine lv_iinc (v := number + 1) (lv' := [(3, .int (number + 1)), (6, .int isMarked_7), (5, .int (nI other)), (0, .ref s0), (1, .int marks), (2, .int (nI K)), (4, .int (nI one))]) hx hb dX6_layDouble_110 hl (k := 2) rfl rfl (by decide) rfl (fun ls hl => ?_)
                    refine lv_iinc (v := nI (other + 1)) (lv' := [(5, .int (nI (other + 1))), (3, .int (number + 1)), (6, .int isMarked_7), (0, .ref s0), (1, .int marks), (2, .int (nI K)), (4, .int (nI one))]) hx hb dX6_layDouble_113 hl (k := 2) rfl (nI_1 _) (by decide) rfl (fun ls hl => ?_)
                    refine lv_goto (tgt := 35) hx hb dX6_layDouble_116 (by decide) ?_
                    exact ih_35 (other + 1) (number + 1) r_16 _ _ _ (by omega) hr hP hD hS (lv_sub hl [0, 1, 3, 4, 5, 6] rfl)
        exact lp_35 (K - (one + 1)) (one + 1) number fa _ _ _ (by omega) hr hP hD hS (lv_sub hl [0, 2, 3, 4, 5, 1] rfl)
  exact lp_23 K 0 0 r_1 _ _ _ (by omega) hr hP hD hS (lv_sub hl [0, 1, 3, 4, 2] rfl)
